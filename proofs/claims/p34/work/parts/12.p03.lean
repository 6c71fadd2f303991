/-! letters, systems, drifts, shadows, sheets -/
section KQ
variable {n mo u : Nat} {C : Nat → Nat → Int32} {cells past h : Nat → Int32} {known size most draw changes seen : Int32}
theorem k_type {t c : Nat} {letters : Nat → Int32} {Q : Int32 → Int32 → (Nat → Int32) → Prop} (ht : t < 130) (h1 : 32 ≤ c) (h2 : c ≤ 126) (hQ : ∀ l', (∀ i, i < t → l' i = letters i) → l' t = nI c → Q (nI (t + 1)) (nI (t + 1)) l') : p_X10_type (nI t) letters (nI c) Q := by
  unfold p_X10_type
  refine s_out_in ((gm_rng (by decide) (by decide)).mp ⟨c, h1, h2, rfl⟩) ⟨fun _ => ?_, g00⟩
  unfold p_X8_isFull
  refine ⟨fun g => ⟨fun _ => ?_, g00⟩, fun g => absurd (by rw [show (130 : Int32) = nI 130 from rfl, nI_ltI (by omega) (by decide)]; exact ht) g⟩
  unfold p_X8_append
  refine ⟨vp_in_nI ht (by decide), ?_⟩
  rw [gl_1, nI_add, nI_clamp (by omega), gm_ch2 (by omega)]
  exact hQ _ (fun i hi => pk_un (by omega)) pk_us
theorem k_system {T : Nat → Nat} {t : Nat} {letters tc : Nat → Int32} {place lt rs ts tm td tch : Int32} {Q : Int32 → Int32 → Int32 → Int32 → Int32 → Int32 → (Nat → Int32) → Int32 → Int32 → Int32 → Int32 → Int32 → Int32 → Int32 → (Nat → Int32) → Prop} (hT : gTx T t letters) (hd : 49 ≤ gch T t 0 ∧ gch T t 0 ≤ 55) (hr : (gsS0 T t).1 = true) (hQ : ∀ c' y1 y2 y3 y4 y5 y6 y7, gTc (gsS0 T t).2.2.1 (gch T t 0 - 48) (gsS0 T t).2.2.2 c' (nI (gsS0 T t).2.2.1) (nI (gch T t 0 - 48)) → Q (nI (gsS0 T t).2.2.1) 0 (nI (gsS0 T t).2.2.1) (nI (gch T t 0 - 48)) draw (changes + 1) c' 0 y1 y2 y3 y4 y5 y6 y7) : p_X10_system known size most draw changes cells (nI t) place lt rs letters ts tm td tch tc Q := by
  have hlt := gch_pos hT (p := 0) (by omega)
  obtain ⟨n8, nok⟩ := gsy_ok hT 9 0 (gN T t 0 + 1) (fun _ _ => 0) rfl (by decide) hlt (fun i hi => absurd hi (Nat.not_lt_zero i)) hr
  unfold p_X10_system
  refine s_X8_read hT (fun z => absurd hd z) (fun _ z => absurd hr z) (fun _ _ y1 y2 y5 c' hc' => ⟨fun z => absurd z (by decide), fun _ => ?_⟩)
  unfold p_X0_begin p_X9_take
  refine ⟨by decide, by decide, by decide, by decide, by decide, hQ _ _ _ _ _ _ _ _ ⟨n8, by omega, by omega, rfl, rfl, fun i hi j hj => ?_, fun i hi => ?_⟩⟩
  · have hi8 : i < 8 := Nat.lt_of_lt_of_le hi n8
    rw [gcl_0, gcl_48, pk_cpy_in (Nat.zero_le _) (by omega), Nat.zero_add, Nat.sub_zero]
    exact hc' i hi j hj
  · obtain ⟨w1, kd, w2, w3⟩ := nok i hi
    exact ⟨w1.1, w1.2, kd, w2, w3⟩
/-- what a drift does: the draw, the constraints -/
def gdD (d : Nat) : Nat → Nat
  | 0 => d
  | i + 1 => gdr (gdD d i)
def gdC (n d : Nat) (C : Nat → Nat → Int32) : Nat → Nat → Nat → Int32
  | 0 => C
  | i + 1 => if n = 0 then gdC n d C i else gput (gdC n d C i) (gdk n (gdD d (i + 1))) (gdj (gdD d (i + 1))) (gdv (gdD d (i + 1)))
theorem gdv_ok {j d : Nat} (hj : j < 5) : gokv j (gdv d) := by
  have e : (gdv d).toInt = ((d / 65536 / 64 % 19 : Nat) : Int) - 9 := by
    unfold gdv
    exact pk_sub_toInt (b := 9) (by omega) (by decide)
  refine ⟨fun _ => by omega, fun _ => by omega, fun z => by omega⟩
theorem gdD_lt {d : Nat} (hd : d < 2147483648) : ∀ i, gdD d i < 2147483648 := by
  intro i
  cases i with
  | zero => exact hd
  | succ i => exact gdr_lt _
theorem k_drift {d m : Nat} {Q : Int32 → Int32 → Int32 → Int32 → (Nat → Int32) → (Nat → Int32) → Int32 → (Nat → Int32) → Prop} (hT : gTc n mo C cells size most) (hu : u ≤ 8) (hkn : known = nI u) (hd : draw = nI d) (hd2 : d < 2147483648) (hm1 : 1 ≤ m) (hm40 : m ≤ 40) (hv : seen = changes → gVh (fun k j => cells (6 * k + j)) n mo h) (hne : ∀ e, 1 ≤ e → e ≤ 40 → ¬ seen = changes + nI e)
    (hQ : ∀ v e cells' past' h', v ≤ 8 → (u + m ≤ 8 → v = u + m) → (8 ≤ u + m → v = 8) → e ≤ m → gTc n mo (gdC n d C m) cells' size most → gVh (fun k j => cells' (6 * k + j)) n mo h' → Q (nI (gcnt (gfull (gdC n d C m) n mo) 4096)) (nI v) (nI (gdD d m)) (changes + nI e) cells' past' (changes + nI e) h') : p_X10_drift known size most draw changes cells past seen h (nI m) Q := by
  subst hkn hd
  unfold p_X10_drift
  refine s_out_in ((gm_rng (a := 1) (b := 40) (by decide) (by decide)).mp ⟨m, hm1, hm40, rfl⟩) ⟨fun _ => ?_, g00⟩
  refine gi6_inv m (fun i a b c e' f g => a = nI i ∧ ∃ v e, b = nI v ∧ v ≤ 8 ∧ (u + i ≤ 8 → v = u + i) ∧ (8 ≤ u + i → v = 8) ∧ c = nI (gdD d i) ∧ e' = changes + nI e ∧ e ≤ i ∧ gTc n mo (gdC n d C i) f size most ∧ (e = 0 → f = cells)) ?_ ?_ ⟨rfl, u, 0, rfl, hu, fun _ => rfl, fun z => by omega, rfl, by rw [nI_0, Int32.add_zero], Nat.le_refl _, hT, fun _ => rfl⟩
  · rintro i hi X a b c e' f g ⟨rfl, v, e, rfl, hv8, hv1, hv2, rfl, rfl, he, hTi, hez⟩ hX
    unfold p_X10_drift_15
    refine ⟨fun z => ?_, fun _ => k_keep hv8 rfl (fun past' => ?_)⟩
    · rw [nI_leI (by omega) (by omega)] at z; omega
    · obtain ⟨hn8, hmo1, hmo7, hs, hms, hc, hr⟩ := id hTi
      rw [hs]
      have gv : gup v ≤ 8 ∧ (u + (i + 1) ≤ 8 → gup v = u + (i + 1)) ∧ (8 ≤ u + (i + 1) → gup v = 8) := by
        unfold gup
        split <;> omega
      refine s_X9_driftOnce hn8 (fun z => hX _ _ _ _ _ _ ⟨by rw [gl_1, nI_add], gup v, e, rfl, gv.1, gv.2.1, gv.2.2, rfl, rfl, by omega, ?_, hez⟩) (fun z => hX _ _ _ _ _ _ ⟨by rw [gl_1, nI_add], gup v, e + 1, rfl, gv.1, gv.2.1, gv.2.2, rfl, ?_, by omega, ?_, fun z => by omega⟩)
      · show gTc n mo (if n = 0 then _ else _) f size most
        rw [if_pos z]
        exact hTi
      · rw [gl_1, Int32.add_assoc, nI_add]
      · show gTc n mo (if n = 0 then _ else _) _ size most
        rw [if_neg (by omega)]
        exact gTc_put hTi (by unfold gdj; omega) (gdv_ok (Nat.mod_lt _ (by decide)))
  · rintro X a b c e' f g ⟨rfl, v, e, rfl, hv8, hv1, hv2, rfl, rfl, he, hTi, hez⟩
    unfold p_X10_drift_15
    refine ⟨fun _ => ?_, fun z => absurd (by rw [nI_leI (by omega) (by omega)]; exact Nat.le_refl _) z⟩
    have hF := hTi.full
    obtain ⟨hn8, hmo1, hmo7, hs, hms, hc, hr⟩ := id hTi
    rw [hs, hms]
    refine s_X5_pointCount hn8 hmo7 (fun z => ?_) (fun h' hh => ?_)
    · by_cases e0 : e = 0
      · rw [hez e0]
        subst e0
        exact hv (by rw [z, nI_0, Int32.add_zero])
      · exact absurd z (hne e (by omega) (by omega))
    · rw [hF]
      exact hQ v e f g h' hv8 hv1 hv2 he hTi hh
theorem gTc.B {n mo : Nat} {C : Nat → Nat → Int32} {cells : Nat → Int32} {size most : Int32} (hT : gTc n mo C cells size most) : ∀ k, k < n → ∀ j, j < 5 → gB (C k j) 99 := by
  obtain ⟨-, -, -, -, -, -, hr⟩ := hT
  intro k hk j hj
  obtain ⟨a, b, -⟩ := hr k hk
  unfold gB
  rcases (show j < 4 ∨ j = 4 by omega) with z | z
  · have := a j z
    omega
  · subst z
    omega
theorem k_deep {v w : Nat} {ds rs ss : Int32} {dc rc sc : Nat → Int32} {Q : Int32 → Int32 → (Nat → Int32) → Int32 → (Nat → Int32) → Int32 → (Nat → Int32) → Prop} (hT : gTc n mo C cells size most) (hv : v < 4) (hw : w < 5) (hQ : ∀ y4 y5 y6 y7 y8 y9, Q (nI (gcnt (fun p => gbase mo v p && gcn (gshd (gsrc C n v mo) v false) (gshd (gsrc C n v mo) v true) (gsrc C n v mo) mo v w p) 4096)) y4 y5 y6 y7 y8 y9) : p_X10_deep 405 405 90 size most cells ds dc rs rc ss sc (nI v) (nI w) Q := by
  have hB := hT.B
  obtain ⟨hn, -, hm, rfl, rfl, hc, -⟩ := hT
  unfold p_X10_deep p_X10_isNoVariable
  exact s_oR_in hv (by decide) rfl ⟨rfl, ⟨fun _ => s_oR_in hw (by decide) rfl ⟨fun _ => s_X6_depth hn hv hm hw (fun k hk j hj => (hc k hk j hj).symm) hB hQ, g00⟩, g00⟩⟩
theorem k_row {v s k i : Nat} {ds rs ss : Int32} {dc rc sc : Nat → Int32} {Q : Int32 → Int32 → (Nat → Int32) → Int32 → (Nat → Int32) → Int32 → (Nat → Int32) → Prop} (hT : gTc n mo C cells size most) (hv : v < 4) (hs : s < 2) (hi : i < 5) (hk : k < (gshd (gsrc C n v mo) v (decide (s = 1))).length) (hQ : ∀ y4 y5 y6 y7 y8 y9, Q (sr (gshd (gsrc C n v mo) v (decide (s = 1))) k i) y4 y5 y6 y7 y8 y9) : p_X10_row 405 405 90 size most cells ds dc rs rc ss sc (nI v) (nI s) (nI k) (nI i) Q := by
  have hB := hT.B
  obtain ⟨hn, -, hm, rfl, rfl, hc, -⟩ := hT
  have hN := gsrc_len C v mo hn
  have hsm : gsm (gsrc C n v mo) := gsm_src hm hB
  have lT : ∀ dark, (gshd (gsrc C n v mo) v dark).length ≤ 81 := fun dark => gshd_len hN
  have k81 := lT (decide (s = 1))
  have km1 : ¬ nI k = (-1 : Int32) := by
    intro e
    have := congrArg Int32.toInt e
    rw [nI_toInt (by omega), show (-1 : Int32).toInt = -1 from rfl] at this
    omega
  have klt : ¬ nI k < (-1 : Int32) := by
    rw [Int32.lt_iff_toInt_lt, nI_toInt (by omega), show (-1 : Int32).toInt = -1 from rfl]
    omega
  unfold p_X10_row p_X10_isNoVariable
  refine s_oR_in hv (by decide) rfl ⟨rfl, ⟨fun _ => s_oR_in hs (by decide) rfl ⟨fun _ => ⟨fun z => absurd z klt, fun _ => s_oR_in hi (by decide) rfl ⟨fun _ => ⟨fun y => ?_, fun y => ?_⟩, g00⟩⟩, g00⟩, g00⟩⟩
  · rw [gl_1, nI_eq (by omega) (by decide)] at y
    have ed : decide (s = 1) = true := decide_eq_true y
    rw [ed] at hk hQ k81
    unfold p_X6_shadowOf_k1
    refine s_X6_gatherRows hn hv (fun k hk j hj => (hc k hk j hj).symm) (fun sc1 g1 => s_X6_castShadow (dark := true) g1 hN hsm hv rfl (fun dc1 g2 => ?_))
    refine ⟨fun z => absurd z km1, fun _ => ⟨fun z => ?_, fun _ => s_X4_cell g2 hk hi (by omega) (by decide) (hQ _ _ _ _ _ _)⟩⟩
    rw [nI_leI (by omega) (by omega)] at z
    omega
  · rw [gl_1, nI_eq (by omega) (by decide)] at y
    have ed : decide (s = 1) = false := decide_eq_false y
    rw [ed] at hk hQ k81
    unfold p_X6_shadowOf_k0
    refine s_X6_gatherRows hn hv (fun k hk j hj => (hc k hk j hj).symm) (fun sc1 g1 => s_X6_castShadow (dark := false) g1 hN hsm hv rfl (fun rc1 g2 => ?_))
    refine ⟨fun z => absurd z km1, fun _ => ⟨fun z => ?_, fun _ => s_X4_cell g2 hk hi (by omega) (by decide) (hQ _ _ _ _ _ _)⟩⟩
    rw [nI_leI (by omega) (by omega)] at z
    omega
theorem k_rowN {v s i : Nat} {ds rs ss : Int32} {dc rc sc : Nat → Int32} {Q : Int32 → Int32 → (Nat → Int32) → Int32 → (Nat → Int32) → Int32 → (Nat → Int32) → Prop} (hT : gTc n mo C cells size most) (hv : v < 4) (hs : s < 2) (hi : i < 5) (hQ : ∀ y4 y5 y6 y7 y8 y9, Q (nI (gshd (gsrc C n v mo) v (decide (s = 1))).length) y4 y5 y6 y7 y8 y9) : p_X10_row 405 405 90 size most cells ds dc rs rc ss sc (nI v) (nI s) (-1 : Int32) (nI i) Q := by
  have hB := hT.B
  obtain ⟨hn, -, hm, rfl, rfl, hc, -⟩ := hT
  have hN := gsrc_len C v mo hn
  have hsm : gsm (gsrc C n v mo) := gsm_src hm hB
  unfold p_X10_row p_X10_isNoVariable
  refine s_oR_in hv (by decide) rfl ⟨rfl, ⟨fun _ => s_oR_in hs (by decide) rfl ⟨fun _ => ⟨fun z => absurd z (by decide), fun _ => s_oR_in hi (by decide) rfl ⟨fun _ => ⟨fun y => ?_, fun y => ?_⟩, g00⟩⟩, g00⟩, g00⟩⟩
  · rw [gl_1, nI_eq (by omega) (by decide)] at y
    rw [decide_eq_true y] at hQ
    unfold p_X6_shadowOf_k1
    exact s_X6_gatherRows hn hv (fun k hk j hj => (hc k hk j hj).symm) (fun sc1 g1 => s_X6_castShadow (dark := true) g1 hN hsm hv rfl (fun dc1 g2 => ⟨fun _ => hQ _ _ _ _ _ _, fun z => absurd rfl z⟩))
  · rw [gl_1, nI_eq (by omega) (by decide)] at y
    rw [decide_eq_false y] at hQ
    unfold p_X6_shadowOf_k0
    exact s_X6_gatherRows hn hv (fun k hk j hj => (hc k hk j hj).symm) (fun sc1 g1 => s_X6_castShadow (dark := false) g1 hN hsm hv rfl (fun rc1 g2 => ⟨fun _ => hQ _ _ _ _ _ _, fun z => absurd rfl z⟩))
theorem k_sheet {s l z : Nat} {items : Nat → Int64} {lanes sizes : Nat → Int32} {Q : Int32 → (Nat → Int64) → (Nat → Int32) → (Nat → Int32) → Prop} (hs : s < 4) (hl : l < 4) (hz : z ≤ 24) (hQ : ∀ it, Q (nI z) it (upd lanes s (nI l)) (upd sizes s (nI z))) : p_X10_sheet items lanes sizes (nI s) (nI l) (nI z) Q := by
  unfold p_X10_sheet
  refine s_noSL_in hs hl ⟨fun _ => ⟨fun _ => ⟨fun _ => ?_, fun y => absurd (nI_pos' (by omega)) y⟩, fun y => absurd (by rw [show (24 : Int32) = nI 24 from rfl, nI_leI (by omega) (by decide)]; exact hz) y⟩, g00⟩
  unfold p_X7_lay
  refine ⟨vp_in_nI hs (by decide), vp_in_nI hs (by decide), ?_⟩
  rw [nI_clamp (by omega)]
  refine gi2_inv z (fun i a b => a = nI i) ?_ ?_ rfl
  · rintro i hi X a b rfl hX
    unfold p_X7_lay_17
    refine ⟨fun y => ?_, fun _ => s_X7_put hs (by omega) (hX _ _ (by rw [gl_1, nI_add]))⟩
    rw [nI_leI (by omega) (by omega)] at y
    omega
  · rintro X a b rfl
    unfold p_X7_lay_17
    exact ⟨fun _ => hQ b, fun y => absurd (by rw [nI_leI (by omega) (by omega)]; omega) y⟩
theorem k_clear {s z : Nat} {lanes sizes : Nat → Int32} {Q : Int32 → (Nat → Int32) → Prop} (hs : s < 4) (hl : ¬ lanes s = -1) (hz : sizes s = nI z) (hQ : ∀ l', Q (nI z) l') : p_X10_clear lanes sizes (nI s) Q := by
  unfold p_X10_clear p_X7_holdsNothing p_X7_takeAway
  refine s_oR_in hs (by decide) rfl ⟨fun _ => ⟨vp_in_nI hs (by decide), ?_⟩, g00⟩
  rw [nI_clamp (by omega)]
  refine ⟨fun y => absurd y hl, fun _ => ⟨fun _ => ⟨vp_in_nI hs (by decide), vp_in_nI hs (by decide), ?_⟩, g00⟩⟩
  show Q (sizes s) _
  rw [hz]
  exact hQ _
theorem k_film {N s l z i : Nat} {items : Nat → Int64} {lanes sizes : Nat → Int32} {Q : Int32 → Int32 → (Nat → Int32) → (Nat → Int64) → Prop} (hT : gTc n mo C cells size most) (hv : seen = changes → gVh (fun k j => cells (6 * k + j)) n mo h) (hN1 : 1 ≤ N) (hN : N ≤ 24) (hs : s < 4) (hl : l < 4) (hls : lanes s = nI l) (hz : sizes s = nI z) (hz24 : z ≤ 24) (hi : i + N ≤ z) (hQ : ∀ h' it, gVh (fun k j => cells (6 * k + j)) n mo h' → (∀ j, j < N → gFit (gfull C n mo) (nI l) (it (24 * s + i + j)) j) → Q (nI N) changes h' it) : p_X10_film size most changes cells seen h items lanes sizes (nI N) (nI s) (nI l) (nI i) Q := by
  have e := hT.full
  obtain ⟨hn, -, hm, rfl, rfl, hc, -⟩ := hT
  unfold p_X10_film
  have lm1 : ¬ nI l = (-1 : Int32) := fun y => by
    have := congrArg Int32.toInt y
    rw [nI_toInt (by omega), show (-1 : Int32).toInt = -1 from rfl] at this
    omega
  refine s_out_in ((gm_rng (by decide) (by decide)).mp ⟨N, hN1, hN, rfl⟩) ⟨fun _ => s_noSL_in hs hl ⟨fun _ => s_X7_refusal hs hz24 hz hN ?_, g00⟩, g00⟩
  have er : gref (lanes s) (nI l) z (nI i) N = 0 := by
    unfold gref
    rw [hls, if_neg lm1, if_pos rfl, if_pos (by rw [nI_toInt (by omega)]; omega)]
  rw [er]
  refine ⟨fun _ => ?_, fun y => absurd rfl y⟩
  have go : ∀ (h' : Nat → Int32) (x : Int32), gVh (fun k j => cells (6 * k + j)) n mo h' → gPt (gfull (fun k j => cells (6 * k + j)) n mo) x 0 → ∃ k, gi5 (p_X10_film_63 (nI n) (nI mo) changes cells lanes (nI N) (nI s) (nI i) Q) k x (0 : Int32) changes h' items := by
    intro h' x hh hx
    refine s_X10_film_63 hn hm hs (by omega) hh hx (fun h2 it h3 i1 i2 => ?_) rfl
    rw [e, hls] at i1
    exact hQ h2 it h3 i1
  refine s_X5_pointFrom (least := 0) hn hm (by decide) hv (fun h' p hh _ hp hf hlp => go h' _ hh ?_) (fun h' hh hlp => go h' _ hh ?_)
  · refine Or.inl ⟨p, hp, rfl, hf, ?_⟩
    rw [gcnt_none (f := gfull (fun k j => cells (6 * k + j)) n mo) (Nat.zero_le p) (fun q h1 h2 => hlp q h1 h2)]
    rfl
  · refine Or.inr ⟨rfl, ?_⟩
    rw [gcnt_none (f := gfull (fun k j => cells (6 * k + j)) n mo) (Nat.zero_le 4096) (fun q h1 h2 => hlp q h1 h2)]
    exact Nat.le_refl _
theorem k_seen {c s l z i N w : Nat} {P : Nat → Nat} {items : Nat → Int64} {lanes sizes : Nat → Int32} {Q : Int32 → Prop} (hT : gTc n mo C cells size most) (hc : c < n) (hN1 : 1 ≤ N) (hN : N ≤ 8) (hs : s < 4) (hl : l < 4) (hw : w < 2) (hls : lanes s = nI l) (hz : sizes s = nI z) (hz24 : z ≤ 24) (hi : i + N ≤ z) (hP : ∀ j, j < N → P j < 4096 ∧ items (24 * s + (i + j)) = (nI (P j)).toInt64) (hQ : Q (nI (gfm (fun kind => gfit (fun j => ghold (nI kind) (gsum (C c) (P j)) == decide (w = 0)) N) 5))) : p_X10_seen size cells items lanes sizes (nI c) (nI s) (nI l) (nI i) (nI N) (nI w) Q := by
  obtain ⟨hn, -, hm, rfl, rfl, hC, -⟩ := hT
  have lm1 : ¬ nI l = (-1 : Int32) := fun y => by
    have := congrArg Int32.toInt y
    rw [nI_toInt (by omega), show (-1 : Int32).toInt = -1 from rfl] at this
    omega
  have er : gref (lanes s) (nI l) z (nI i) N = 0 := by
    unfold gref
    rw [hls, if_neg lm1, if_pos rfl, if_pos (by rw [nI_toInt (by omega)]; omega)]
  have hPi : ∀ j, j < N → (items (24 * s + (i + j))).toInt = (P j : Int) := fun j hj => by
    rw [(hP j hj).2, Int32.toInt_toInt64, nI_toInt (by have := (hP j hj).1; omega)]
  have hP2 : ∀ j, j < N → P j < 4096 ∧ (items (24 * s + (i + j))).toInt32 = nI (P j) := fun j hj => ⟨(hP j hj).1, by
    rw [(hP j hj).2]
    exact Int32.toInt32_toInt64 _⟩
  have hfe : (fun kind => gfit (fun k => ghold (nI kind) (gsum (fun j => cells (6 * c + j)) (P k)) == decide (w = 0)) N) = (fun kind => gfit (fun k => ghold (nI kind) (gsum (C c) (P k)) == decide (w = 0)) N) := by
    funext kind
    congr 1
    funext k
    rw [gsum_cg (fun j hj => hC c hc j (by omega))]
  unfold p_X10_seen
  refine s_noC_in hc hn ⟨fun _ => s_noSL_in hs hl ⟨fun _ => s_out_in ((gm_rng (by decide) (by decide)).mp ⟨N, hN1, hN, rfl⟩) ⟨fun _ => s_oR_in hw (by decide) rfl ⟨fun _ => s_X7_refusal hs hz24 hz (by omega) ?_, g00⟩, g00⟩, g00⟩, g00⟩
  rw [er]
  refine ⟨fun _ => s_arePoints hs (by omega) (fun _ => ⟨g10, fun _ => ⟨fun y => ?_, fun y => ?_⟩⟩) (fun y => absurd (fun j hj => ?_) y), fun y => absurd rfl y⟩
  · rw [gl_0, nI_eq (by omega) (by decide)] at y
    unfold p_X10_seen_95
    refine s_X10_kinds (w := decide (w = 0)) (by omega) hs (by omega) (by rw [decide_eq_true y]; rfl) hP2 ?_
    rw [hfe]
    exact hQ
  · rw [gl_0, nI_eq (by omega) (by decide)] at y
    unfold p_X10_seen_95
    refine s_X10_kinds (w := decide (w = 0)) (by omega) hs (by omega) (by rw [decide_eq_false y]; rfl) hP2 ?_
    rw [hfe]
    exact hQ
  · have := hPi j hj
    have := (hP j hj).1
    omega
end KQ
