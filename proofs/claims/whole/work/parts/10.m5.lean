/-! the calls that are soon done -/
theorem g10 {A : Prop} (h : (1 : Int32) = 0) : A := absurd h (by decide)
theorem g00 {A : Prop} (h : ¬ (0 : Int32) = 0) : A := absurd rfl h
theorem gx_m6j (k j : Nat) : (3 : Int32) + ((6 : Int32) * nI k) + nI j = nI (3 + 6 * k + j) := by
  rw [gx_m6, nI_add]
theorem gm_pt {p : Nat} {Q : Int32 → Prop} (hp : p < 4096) (hQ : Q 1) : p_X11_isPoint (nI p).toInt64 Q := by
  unfold p_X11_isPoint
  exact s_iR_in hp (by decide) (by decide) ⟨rfl, hQ⟩
theorem gm_npt {x : Int32} {Q : Int32 → Prop} (h : ¬ ∃ k, k < 4096 ∧ x = nI k) (hQ : Q 0) : p_X11_isPoint x.toInt64 Q := by
  unfold p_X11_isPoint
  exact s_iR_out h (by decide) (by decide) ⟨rfl, hQ⟩
theorem o_of {n mo : Nat} {cells now : Nat → Int32} {size most draw a1 a2 : Int32} {X : Prop} (hS : gSnap n mo cells size most draw now) (hX : X) : p_X10_of size cells a1 a2 (fun r1 => p_X11_of now a1 a2 (fun r2 => r1 = r2 ∧ X)) := by
  obtain ⟨hn, -, -, rfl, -, h0, -, -, -, hc, -⟩ := hS
  unfold p_X10_of
  by_cases h : ∃ k, k < n ∧ a1 = nI k
  · obtain ⟨k, hk, rfl⟩ := h
    refine s_noC_in hk hn ⟨fun _ => ?_, g00⟩
    by_cases hw : ∃ j, j < 6 ∧ a2 = nI j
    · obtain ⟨j, hj, rfl⟩ := hw
      refine s_oR_in hj (by decide) rfl ⟨fun _ => ?_, g00⟩
      unfold p_X9_cell p_X11_of
      refine ⟨gx_in _ (gx_6 k j) (by omega) (by decide), s_one_in h0 hk hn ⟨g10, fun _ => s_iR_in hj (by decide) (by decide) ⟨g10, fun _ => ⟨gx_in _ (gx_m6j k j) (by omega) (by decide), ?_⟩⟩⟩⟩
      rw [gx_cl _ (gx_6 k j) (by omega), gx_cl _ (gx_m6j k j) (by omega)]
      exact ⟨hc k hk j hj, hX⟩
    · refine s_oR_out hw (by decide) (by decide) rfl ⟨g10, fun _ => ?_⟩
      unfold p_X11_of
      exact s_one_in h0 hk hn ⟨g10, fun _ => s_iR_out hw (by decide) (by decide) ⟨fun _ => ⟨rfl, hX⟩, g00⟩⟩
  · refine s_noC_out h hn ⟨g10, fun _ => ?_⟩
    unfold p_X11_of
    exact s_one_out h0 h hn ⟨fun _ => ⟨rfl, hX⟩, g00⟩
theorem gsum_cg {C D : Nat → Int32} {p : Nat} (h : ∀ j, j < 5 → C j = D j) : gsum C p = gsum D p := by
  unfold gsum
  rw [h 0 (by decide), h 1 (by decide), h 2 (by decide), h 3 (by decide), h 4 (by decide)]
theorem gmask_cg {C D : Nat → Nat → Int32} {n p : Nat} (h : ∀ k, k < n → ∀ j, j < 6 → C k j = D k j) : gmask C n p = gmask D n p := by
  induction n with
  | zero => rfl
  | succ n ih =>
    show gmask C n p + _ = gmask D n p + _
    rw [ih (fun k hk => h k (by omega)), h n (by omega) 5 (by decide), gsum_cg (fun j hj => h n (by omega) j (by omega))]
theorem gfull_cg {C D : Nat → Nat → Int32} {n most p : Nat} (h : ∀ k, k < n → ∀ j, j < 6 → C k j = D k j) : gfull C n most p = gfull D n most p := by
  unfold gfull
  rw [gmask_cg h]
theorem o_sum {n mo : Nat} {cells now : Nat → Int32} {size most draw a1 a2 : Int32} {X : Prop} (hS : gSnap n mo cells size most draw now) (hX : X) : p_X10_sum size cells a1 a2 (fun r1 => p_X11_sum now a1 a2 (fun r2 => r1 = r2 ∧ X)) := by
  obtain ⟨hn, -, -, rfl, -, h0, -, -, -, hc, -⟩ := hS
  unfold p_X10_sum
  by_cases h : ∃ k, k < n ∧ a1 = nI k
  · obtain ⟨k, hk, rfl⟩ := h
    refine s_noC_in hk hn ⟨fun _ => ?_, g00⟩
    by_cases hw : ∃ j, j < 4096 ∧ a2 = nI j
    · obtain ⟨p, hp, rfl⟩ := hw
      refine s_oR_in hp (by decide) rfl ⟨fun _ => s_X9_sumAt (by omega) hp ?_, g00⟩
      unfold p_X11_sum
      refine s_one_in h0 hk hn ⟨g10, fun _ => gm_pt hp ⟨g10, fun _ => s_X11_sumOf (by omega) hp ⟨?_, hX⟩⟩⟩
      exact gsum_cg (fun j hj => hc k hk j (by omega))
    · refine s_oR_out hw (by decide) (by decide) rfl ⟨g10, fun _ => ?_⟩
      unfold p_X11_sum
      exact s_one_in h0 hk hn ⟨g10, fun _ => gm_npt hw ⟨fun _ => ⟨rfl, hX⟩, g00⟩⟩
  · refine s_noC_out h hn ⟨g10, fun _ => ?_⟩
    unfold p_X11_sum
    exact s_one_out h0 h hn ⟨fun _ => ⟨rfl, hX⟩, g00⟩
theorem o_hold {n mo : Nat} {cells now : Nat → Int32} {size most draw a1 : Int32} {X : Prop} (hS : gSnap n mo cells size most draw now) (hX : X) : p_X10_hold size cells a1 (fun r1 => p_X11_hold now a1 (fun r2 => r1 = r2 ∧ X)) := by
  obtain ⟨hn, -, -, rfl, -, h0, -, -, -, hc, -⟩ := hS
  unfold p_X10_hold
  by_cases hw : ∃ j, j < 4096 ∧ a1 = nI j
  · obtain ⟨p, hp, rfl⟩ := hw
    refine s_oR_in hp (by decide) rfl ⟨fun _ => s_X9_holdingAt hn hp ?_, g00⟩
    unfold p_X11_hold
    refine gm_pt hp ⟨g10, fun _ => s_X11_holdsAt h0 hn hp ⟨?_, hX⟩⟩
    rw [gmask_cg hc]
  · refine s_oR_out hw (by decide) (by decide) rfl ⟨g10, fun _ => ?_⟩
    unfold p_X11_hold
    exact gm_npt hw ⟨fun _ => ⟨rfl, hX⟩, g00⟩
/-! the tape -/
def gTape (t : Nat) (length : Int32) (letters : Nat → Int32) (taped : Int32) (tape : Nat → Int32) : Prop := t ≤ 130 ∧ length = nI t ∧ taped = nI t ∧ ∀ i, i < t → letters i = tape i ∧ ∃ c, 32 ≤ c ∧ c ≤ 126 ∧ tape i = nI c
theorem gm_char : ∀ c, c < 127 → vp_nar .char (((nI c).toUInt32 % 65536).toInt32) = nI c := by decide +kernel
theorem gm_ch2 {c : Nat} (h : c < 127) : vp_nar .char (((nI c).toUInt32 % 65536).toInt32) = nI c := gm_char c h
theorem gm_rng {x : Int32} {a b : Nat} (ha : a ≤ b) (hb : b < 2 ^ 31) : (∃ c, a ≤ c ∧ c ≤ b ∧ x = nI c) ↔ ((a : Int) ≤ x.toInt ∧ x.toInt ≤ b) := by
  constructor
  · rintro ⟨k, h1, h2, rfl⟩
    rw [nI_toInt (by omega)]
    omega
  · intro h
    refine ⟨x.toInt.toNat, by omega, by omega, ?_⟩
    apply Int32.toInt_inj.mp
    rw [nI_toInt (by omega)]
    omega
theorem o_type {t : Nat} {length taped a1 : Int32} {letters tape : Nat → Int32} {X : Int32 → (Nat → Int32) → Int32 → (Nat → Int32) → Prop} (hT : gTape t length letters taped tape) (hX : ∀ t' y2 y3 y5 y6, gTape t' y2 y3 y5 y6 → X y2 y3 y5 y6) : p_X10_type length letters a1 (fun r1 y2 y3 => p_X11_type taped tape a1 (fun r4 y5 y6 => r1 = r4 ∧ X y2 y3 y5 y6)) := by
  obtain ⟨ht, rfl, rfl, hl⟩ := id hT
  unfold p_X10_type
  by_cases h : ∃ c, 32 ≤ c ∧ c ≤ 126 ∧ a1 = nI c
  · have h' := (gm_rng (by decide) (by decide)).mp h
    obtain ⟨c, c1, c2, rfl⟩ := h
    refine s_out_in h' ⟨fun _ => ?_, g00⟩
    unfold p_X8_isFull
    refine ⟨fun g => ⟨fun _ => ?_, g00⟩, fun g => ⟨g10, fun _ => ?_⟩⟩
    · rw [show (130 : Int32) = nI 130 from rfl, nI_ltI (by omega) (by decide)] at g
      unfold p_X8_append p_X11_type
      refine ⟨vp_in_nI g (by decide), s_in_in (by rw [gm_l]; exact h') ⟨g10, fun _ => ⟨fun e => ?_, fun _ => ⟨vp_in_nI g (by decide), rfl, ?_⟩⟩⟩⟩
      · rw [show (130 : Int32) = nI 130 from rfl, nI_eq (by omega) (by decide)] at e; omega
      · rw [gl_1, nI_add, nI_clamp (by omega), gm_ch2 (by omega)]
        refine hX (t + 1) _ _ _ _ ⟨by omega, rfl, rfl, fun i hi => ?_⟩
        by_cases e : i = t
        · subst e
          rw [pk_us, pk_us]
          exact ⟨rfl, c, c1, c2, rfl⟩
        · rw [pk_un e, pk_un e]
          exact hl i (by omega)
    · rw [show (130 : Int32) = nI 130 from rfl, nI_ltI (by omega) (by decide)] at g
      have e : t = 130 := by omega
      subst e
      unfold p_X11_type
      exact s_in_in (by rw [gm_l]; exact h') ⟨g10, fun _ => ⟨fun _ => ⟨rfl, hX _ _ _ _ _ hT⟩, fun e => absurd rfl e⟩⟩
  · have h' := fun z => h ((gm_rng (by decide) (by decide)).mpr z)
    refine s_out_out h' ⟨g10, fun _ => ?_⟩
    unfold p_X11_type
    exact s_in_out (by rw [gm_l]; exact h') ⟨fun _ => ⟨rfl, hX _ _ _ _ _ hT⟩, g00⟩
/-! sheets -/
def gSheets (items : Nat → Int64) (lanes sizes : Nat → Int32) (items' : Nat → Int64) (lanes' sizes' : Nat → Int32) : Prop := ∀ s, s < 4 → lanes s = lanes' s ∧ sizes s = sizes' s ∧ (lanes s = -1 ∨ ∃ l, l < 4 ∧ lanes s = nI l) ∧ ∃ z, z ≤ 24 ∧ sizes s = nI z ∧ (¬ lanes s = -1 → ∀ j, j < z → items (24 * s + j) = items' (24 * s + j))
theorem s_noSL_in {s l : Nat} {Q : Int32 → Prop} (hs : s < 4) (hl : l < 4) (hQ : Q 0) : p_X10_isNoSheetOrLane (nI s) (nI l) Q := by
  unfold p_X10_isNoSheetOrLane
  exact s_oR_in hs (by decide) rfl ⟨fun _ => s_oR_in hl (by decide) rfl ⟨fun _ => hQ, g00⟩, g00⟩
theorem s_noSL_out {x y : Int32} {Q : Int32 → Prop} (h : ¬ ((∃ s, s < 4 ∧ x = nI s) ∧ ∃ l, l < 4 ∧ y = nI l)) (hQ : Q 1) : p_X10_isNoSheetOrLane x y Q := by
  unfold p_X10_isNoSheetOrLane
  by_cases h1 : ∃ s, s < 4 ∧ x = nI s
  · have h2 : ¬ ∃ l, l < 4 ∧ y = nI l := fun z => h ⟨h1, z⟩
    obtain ⟨s, hs, rfl⟩ := h1
    exact s_oR_in hs (by decide) rfl ⟨fun _ => s_oR_out h2 (by decide) (by decide) rfl ⟨g10, fun _ => hQ⟩, g00⟩
  · exact s_oR_out h1 (by decide) (by decide) rfl ⟨g10, fun _ => hQ⟩
theorem s_sh_in {s : Nat} {Q : Int32 → Prop} (hs : s < 4) (hQ : Q 1) : p_X11_isSheet (nI s) Q := by
  unfold p_X11_isSheet
  exact s_iR_in hs (by decide) (by decide) ⟨rfl, hQ⟩
theorem s_sh_out {x : Int32} {Q : Int32 → Prop} (h : ¬ ∃ s, s < 4 ∧ x = nI s) (hQ : Q 0) : p_X11_isSheet x Q := by
  unfold p_X11_isSheet
  exact s_iR_out h (by decide) (by decide) ⟨rfl, hQ⟩
theorem gm_lane {lanes : Nat → Int32} {s : Nat} (h : lanes s = -1 ∨ ∃ l, l < 4 ∧ lanes s = nI l) : (0 ≤ lanes s) ↔ ¬ lanes s = -1 := by
  rcases h with h | ⟨l, hl, h⟩
  · rw [h]; decide
  · rw [h, gl_0, nI_leI (by decide) (by omega)]
    exact ⟨fun _ e => gm_ne1 l (by omega) e.symm, fun _ => Nat.zero_le l⟩
theorem gx_24 (s j : Nat) : nI s * (24 : Int32) + nI j = nI (24 * s + j) := by
  rw [show (24 : Int32) = nI 24 from rfl, pk_mul, nI_add, Nat.mul_comm]
theorem gx_24m (s j : Nat) : (24 : Int32) * nI s + nI j = nI (24 * s + j) := by
  rw [show (24 : Int32) = nI 24 from rfl, pk_mul, nI_add]
