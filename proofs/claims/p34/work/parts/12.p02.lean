/-! what is looked for -/
section KP
variable {n mo : Nat} {C : Nat → Nat → Int32} {cells h : Nat → Int32} {size most changes seen : Int32}
theorem gm_ne2 {k : Nat} (hk : k < 3) : (nI k = (2 : Int32) ↔ k = 2) := by rw [gl_2, nI_eq (by omega) (by decide)]
theorem k_range2 {i : Nat} {Q : Int32 → Int32 → (Nat → Int32) → Prop} (hT : gTc n mo C cells size most) (hv : seen = changes → gVh (fun k j => cells (6 * k + j)) n mo h) (hi : i < 4) (hQ : ∀ h', gVh (fun k j => cells (6 * k + j)) n mo h' → Q (nI (gor (gfull C n mo) (fun p => gv p i) 4096)) changes h') : p_X10_range size most changes cells seen h (nI i) (2 : Int32) Q := by
  have e := hT.full
  obtain ⟨hn, -, hm, rfl, rfl, -⟩ := hT
  unfold p_X10_range p_X10_isNoVariable
  refine s_oR_in hi (by decide) rfl ⟨rfl, ⟨fun _ => s_oR_in (k := 2) (n := 3) (by decide) (by decide) rfl ⟨fun _ => s_X5_valuesOf hn hm hi hv (fun h' hh => ⟨fun _ => ?_, fun z => absurd rfl z⟩), g00⟩, g00⟩⟩
  rw [e]
  exact hQ h' hh
theorem gorv_lt (f : Nat → Bool) (i : Nat) : gor f (fun p => gv p i) 4096 < 32768 := gor_lt (fun p => Nat.lt_trans (gv_lt p i) (by decide)) _
theorem gorg_lt (f : Nat → Bool) (i o : Nat) : gor f (fun p => gv p o + 7 - gv p i) 4096 < 32768 := gor_lt (fun p => by have := gv_lt p o; show gv p o + 7 - gv p i < 15; omega) _
theorem k_range0 {i : Nat} {Q : Int32 → Int32 → (Nat → Int32) → Prop} (hT : gTc n mo C cells size most) (hv : seen = changes → gVh (fun k j => cells (6 * k + j)) n mo h) (hi : i < 4) (h0 : gor (gfull C n mo) (fun p => gv p i) 4096 = 0 → ∀ h', gVh (fun k j => cells (6 * k + j)) n mo h' → Q (-1000004) changes h')
    (hQ : ¬ gor (gfull C n mo) (fun p => gv p i) 4096 = 0 → ∀ h' k, gVh (fun k j => cells (6 * k + j)) n mo h' → k < 15 → gor (gfull C n mo) (fun p => gv p i) 4096 / 2 ^ k % 2 = 1 → (∀ j, j < k → gor (gfull C n mo) (fun p => gv p i) 4096 / 2 ^ j % 2 = 0) → Q (nI k) changes h') : p_X10_range size most changes cells seen h (nI i) (0 : Int32) Q := by
  have e := hT.full
  obtain ⟨hn, -, hm, rfl, rfl, -⟩ := hT
  unfold p_X10_range p_X10_isNoVariable
  refine s_oR_in hi (by decide) rfl ⟨rfl, ⟨fun _ => s_oR_in (k := 0) (n := 3) (by decide) (by decide) rfl ⟨fun _ => s_X5_valuesOf hn hm hi hv (fun h' hh => ?_), g00⟩, g00⟩⟩
  rw [e]
  have hlt := gorv_lt (gfull C n mo) i
  refine ⟨fun z => absurd z (by decide), fun _ => ⟨fun g => ?_, fun g => ⟨fun _ => ?_, fun z => absurd rfl z⟩⟩⟩
  · rw [gl_0, nI_eq (by omega) (by decide)] at g
    exact h0 g h' hh
  · rw [gl_0, nI_eq (by omega) (by decide)] at g
    exact s_low hlt g (fun k hk e1 e2 => hQ g h' k hh hk e1 e2)
theorem k_range1 {i : Nat} {Q : Int32 → Int32 → (Nat → Int32) → Prop} (hT : gTc n mo C cells size most) (hv : seen = changes → gVh (fun k j => cells (6 * k + j)) n mo h) (hi : i < 4) (h0 : gor (gfull C n mo) (fun p => gv p i) 4096 = 0 → ∀ h', gVh (fun k j => cells (6 * k + j)) n mo h' → Q (-1000004) changes h')
    (hQ : ¬ gor (gfull C n mo) (fun p => gv p i) 4096 = 0 → ∀ h' k, gVh (fun k j => cells (6 * k + j)) n mo h' → k < 15 → gor (gfull C n mo) (fun p => gv p i) 4096 / 2 ^ k % 2 = 1 → (∀ j, k < j → gor (gfull C n mo) (fun p => gv p i) 4096 / 2 ^ j % 2 = 0) → Q (nI k) changes h') : p_X10_range size most changes cells seen h (nI i) (1 : Int32) Q := by
  have e := hT.full
  obtain ⟨hn, -, hm, rfl, rfl, -⟩ := hT
  unfold p_X10_range p_X10_isNoVariable
  refine s_oR_in hi (by decide) rfl ⟨rfl, ⟨fun _ => s_oR_in (k := 1) (n := 3) (by decide) (by decide) rfl ⟨fun _ => s_X5_valuesOf hn hm hi hv (fun h' hh => ?_), g00⟩, g00⟩⟩
  rw [e]
  have hlt := gorv_lt (gfull C n mo) i
  refine ⟨fun z => absurd z (by decide), fun _ => ⟨fun g => ?_, fun g => ⟨fun z => absurd z (by decide), fun _ => ?_⟩⟩⟩
  · rw [gl_0, nI_eq (by omega) (by decide)] at g
    exact h0 g h' hh
  · rw [gl_0, nI_eq (by omega) (by decide)] at g
    exact s_high hlt g (fun k hk e1 e2 => hQ g h' k hh hk e1 e2)
theorem k_apart2 {i o : Nat} {Q : Int32 → Int32 → (Nat → Int32) → Prop} (hT : gTc n mo C cells size most) (hv : seen = changes → gVh (fun k j => cells (6 * k + j)) n mo h) (hi : i < 4) (ho : o < 4) (hio : i ≠ o) (hQ : ∀ h', gVh (fun k j => cells (6 * k + j)) n mo h' → Q (nI (gbs (gor (gfull C n mo) (fun p => gv p o + 7 - gv p i) 4096) 15)) changes h') : p_X10_apart size most changes cells seen h (nI i) (nI o) (2 : Int32) Q := by
  have e := hT.full
  obtain ⟨hn, -, hm, rfl, rfl, -⟩ := hT
  unfold p_X10_apart p_X10_isNoVariable
  refine s_oR_in hi (by decide) rfl ⟨rfl, ⟨fun _ => s_oR_in ho (by decide) rfl ⟨rfl, ⟨fun _ => ⟨fun g => absurd ((nI_eq (by omega) (by omega)).mp g) hio, fun _ => s_oR_in (k := 2) (n := 3) (by decide) (by decide) rfl ⟨fun _ => s_X5_gapsOf hn hm hi ho hv (fun h' hh => ⟨fun _ => ?_, fun z => absurd rfl z⟩), g00⟩⟩, g00⟩⟩, g00⟩⟩
  rw [e]
  exact s_bitCount (gorg_lt _ i o) (hQ h' hh)
theorem k_apart0 {i o : Nat} {Q : Int32 → Int32 → (Nat → Int32) → Prop} (hT : gTc n mo C cells size most) (hv : seen = changes → gVh (fun k j => cells (6 * k + j)) n mo h) (hi : i < 4) (ho : o < 4) (hio : i ≠ o) (h0 : gor (gfull C n mo) (fun p => gv p o + 7 - gv p i) 4096 = 0 → ∀ h', gVh (fun k j => cells (6 * k + j)) n mo h' → Q (-1000004) changes h')
    (hQ : ¬ gor (gfull C n mo) (fun p => gv p o + 7 - gv p i) 4096 = 0 → ∀ h' k, gVh (fun k j => cells (6 * k + j)) n mo h' → k < 15 → gor (gfull C n mo) (fun p => gv p o + 7 - gv p i) 4096 / 2 ^ k % 2 = 1 → (∀ j, j < k → gor (gfull C n mo) (fun p => gv p o + 7 - gv p i) 4096 / 2 ^ j % 2 = 0) → Q (nI k - (7 : Int32)) changes h') : p_X10_apart size most changes cells seen h (nI i) (nI o) (0 : Int32) Q := by
  have e := hT.full
  obtain ⟨hn, -, hm, rfl, rfl, -⟩ := hT
  unfold p_X10_apart p_X10_isNoVariable
  refine s_oR_in hi (by decide) rfl ⟨rfl, ⟨fun _ => s_oR_in ho (by decide) rfl ⟨rfl, ⟨fun _ => ⟨fun g => absurd ((nI_eq (by omega) (by omega)).mp g) hio, fun _ => s_oR_in (k := 0) (n := 3) (by decide) (by decide) rfl ⟨fun _ => s_X5_gapsOf hn hm hi ho hv (fun h' hh => ?_), g00⟩⟩, g00⟩⟩, g00⟩⟩
  rw [e]
  have hlt := gorg_lt (gfull C n mo) i o
  refine ⟨fun z => absurd z (by decide), fun _ => ⟨fun g => ?_, fun g => ⟨fun _ => ?_, fun z => absurd rfl z⟩⟩⟩
  · rw [gl_0, nI_eq (by omega) (by decide)] at g
    exact h0 g h' hh
  · rw [gl_0, nI_eq (by omega) (by decide)] at g
    exact s_low hlt g (fun k hk e1 e2 => hQ g h' k hh hk e1 e2)
theorem k_apart1 {i o : Nat} {Q : Int32 → Int32 → (Nat → Int32) → Prop} (hT : gTc n mo C cells size most) (hv : seen = changes → gVh (fun k j => cells (6 * k + j)) n mo h) (hi : i < 4) (ho : o < 4) (hio : i ≠ o) (h0 : gor (gfull C n mo) (fun p => gv p o + 7 - gv p i) 4096 = 0 → ∀ h', gVh (fun k j => cells (6 * k + j)) n mo h' → Q (-1000004) changes h')
    (hQ : ¬ gor (gfull C n mo) (fun p => gv p o + 7 - gv p i) 4096 = 0 → ∀ h' k, gVh (fun k j => cells (6 * k + j)) n mo h' → k < 15 → gor (gfull C n mo) (fun p => gv p o + 7 - gv p i) 4096 / 2 ^ k % 2 = 1 → (∀ j, k < j → gor (gfull C n mo) (fun p => gv p o + 7 - gv p i) 4096 / 2 ^ j % 2 = 0) → Q (nI k - (7 : Int32)) changes h') : p_X10_apart size most changes cells seen h (nI i) (nI o) (1 : Int32) Q := by
  have e := hT.full
  obtain ⟨hn, -, hm, rfl, rfl, -⟩ := hT
  unfold p_X10_apart p_X10_isNoVariable
  refine s_oR_in hi (by decide) rfl ⟨rfl, ⟨fun _ => s_oR_in ho (by decide) rfl ⟨rfl, ⟨fun _ => ⟨fun g => absurd ((nI_eq (by omega) (by omega)).mp g) hio, fun _ => s_oR_in (k := 1) (n := 3) (by decide) (by decide) rfl ⟨fun _ => s_X5_gapsOf hn hm hi ho hv (fun h' hh => ?_), g00⟩⟩, g00⟩⟩, g00⟩⟩
  rw [e]
  have hlt := gorg_lt (gfull C n mo) i o
  refine ⟨fun z => absurd z (by decide), fun _ => ⟨fun g => ?_, fun g => ⟨fun z => absurd z (by decide), fun _ => ?_⟩⟩⟩
  · rw [gl_0, nI_eq (by omega) (by decide)] at g
    exact h0 g h' hh
  · rw [gl_0, nI_eq (by omega) (by decide)] at g
    exact s_high hlt g (fun k hk e1 e2 => hQ g h' k hh hk e1 e2)
theorem k_spareN {w : Nat} {tally : Nat → Int32} {Q : Int32 → Int32 → (Nat → Int32) → (Nat → Int32) → Prop} (hT : gTc n mo C cells size most) (hw : w < 2) (h0 : n = 0) (hQ : Q (-1000004) seen h tally) : p_X10_spare size most changes cells seen h tally (nI w) Q := by
  obtain ⟨hn, -, hm, rfl, rfl, -⟩ := hT
  subst h0
  unfold p_X10_spare
  exact s_oR_in hw (by decide) rfl ⟨fun _ => ⟨fun _ => hQ, fun z => absurd rfl z⟩, g00⟩
theorem k_spare {w : Nat} {tally : Nat → Int32} {Q : Int32 → Int32 → (Nat → Int32) → (Nat → Int32) → Prop} (hT : gTc n mo C cells size most) (hv : seen = changes → gVh (fun k j => cells (6 * k + j)) n mo h) (hw : w < 2) (h0 : ¬ n = 0) (hQ : ∀ h' t', gVh (fun k j => cells (6 * k + j)) n mo h' → gbest (fun j => gcnt (gsp C n mo j) 4096) n < n → Q (if w = 0 then nI (gbest (fun j => gcnt (gsp C n mo j) 4096) n) else nI (gcnt (gsp C n mo (gbest (fun j => gcnt (gsp C n mo j) 4096) n)) 4096)) changes h' t') : p_X10_spare size most changes cells seen h tally (nI w) Q := by
  have e := hT.sp
  obtain ⟨hn, -, hm, rfl, rfl, -⟩ := hT
  unfold p_X10_spare
  refine s_oR_in hw (by decide) rfl ⟨fun _ => ?_, g00⟩
  rw [gl_0, nI_eq (by omega) (by decide)]
  refine ⟨fun g => absurd g h0, fun _ => s_X5_bestSpare hn hm hv (fun h' t' hh ht => ?_)⟩
  rw [e] at ht ⊢
  have hb : gbest (fun j => gcnt (gsp C n mo j) 4096) n < n := by
    have e : n = (n - 1) + 1 := by omega
    have := gbest_lt (fun j => gcnt (gsp C n mo j) 4096) (n - 1)
    rw [← e] at this
    omega
  have := hQ h' t' hh hb
  rw [nI_eq (by omega) (by decide)]
  refine ⟨fun z => ?_, fun z => ⟨vp_in_nI (by omega) (by decide), ?_⟩⟩
  · rw [if_pos z] at this; exact this
  · rw [if_neg z] at this
    rw [nI_clamp (by omega), ht _ hb]
    exact this
theorem k_stretch {c kd : Nat} {Q : Int32 → Int32 → (Nat → Int32) → Prop} (hT : gTc n mo C cells size most) (hv : seen = changes → gVh (fun k j => cells (6 * k + j)) n mo h) (hc : c < n) (hk : kd ≤ 4) (hkd : C c 5 = nI kd) (hQ : ∀ h' r, gVh (fun k j => cells (6 * k + j)) n mo h' → ((gstr (gsp C n mo c) (fun q => glk kd (gsum (C c) q).toInt) 4096 = 100 ∧ r = -1000004) ∨ (gstr (gsp C n mo c) (fun q => glk kd (gsum (C c) q).toInt) 4096 < 100 ∧ r.toInt = gstr (gsp C n mo c) (fun q => glk kd (gsum (C c) q).toInt) 4096)) → Q r changes h') : p_X10_stretch size most changes cells seen h (nI c) Q := by
  have e := hT.sp
  have hR := hT.rng
  obtain ⟨hn, -, hm, rfl, rfl, hC, -⟩ := hT
  unfold p_X10_stretch
  refine s_noC_in hc hn ⟨fun _ => s_X5_leastStretch hn hm hc hv hk (by rw [hC c hc 5 (by decide), hkd]) hR (fun h' r hh hr => ?_), g00⟩
  have bd := gstr_bd (gsp C n mo c) (fun q => glk kd (gsum (C c) q).toInt) 4096
  have hfe : (fun q => glk kd (gsum (fun j => cells (6 * c + j)) q).toInt) = (fun q => glk kd (gsum (C c) q).toInt) := by
    funext q
    rw [gsum_cg (fun j hj => hC c hc j (by omega))]
  rw [e, hfe] at hr
  rw [gm_abs (by omega), show (99 : Int32) = nI 99 from rfl, nI_leI (by omega) (by decide)]
  refine ⟨fun g => hQ h' r hh (Or.inr ⟨by omega, hr⟩), fun g => hQ h' _ hh (Or.inl ⟨by omega, rfl⟩)⟩
theorem k_core {held : Nat → Int32} {Q : Int32 → Int32 → (Nat → Int32) → (Nat → Int32) → Prop} (hT : gTc n mo C cells size most) (hv : seen = changes → gVh (fun k j => cells (6 * k + j)) n mo h) (h0 : ∀ h' t', gVh (fun k j => cells (6 * k + j)) n mo h' → (∃ q, q < 4096 ∧ gfull C n mo q = true) → Q (-1000004) changes h' t') (h1 : ∀ h' t', gVh (fun k j => cells (6 * k + j)) n mo h' → ¬ (∃ q, q < 4096 ∧ gfull C n mo q = true) → Q (nI (gcore (gLN C n mo) (2 ^ n - 1) (2 ^ n - 1))) changes h' t') : p_X10_core size most changes cells seen h held Q := by
  have e := hT.full
  have eL := hT.LN
  obtain ⟨hn, -, hm, rfl, rfl, -⟩ := hT
  unfold p_X10_core
  refine s_X5_leastCore hn hm hv (fun h' t' hh hq => ⟨fun _ => ?_, fun z => absurd rfl z⟩) (fun h' t' hh hq => ⟨fun z => ?_, fun _ => ?_⟩)
  · rw [e] at hq
    exact h0 h' t' hh hq
  · exfalso
    rw [e] at hq
    rw [eL] at z
    have hN := gm_n2 n hn
    have hgl := gcore_le (gLN C n mo) (2 ^ n - 1) (2 ^ n - 1)
    rw [gl_0, nI_eq (by omega) (by decide)] at z
    by_cases e : 0 < 2 ^ n - 1
    · have := gcore_pos (gLN C n mo) e _ (Nat.le_refl _)
      omega
    · refine hq ⟨0, by decide, ?_⟩
      unfold gfull
      have hlt := gmask_lt C n 0
      rw [gbox_0, Bool.true_and, decide_eq_true_eq]
      omega
  · rw [e] at hq
    rw [eL]
    exact h1 h' t' hh hq
theorem k_asked {p c w : Nat} {Q : Int32 → Prop} (hT : gTc n mo C cells size most) (hp : p < 4096) (hb : gbox mo p = true) (hc : c < 11) (hw : w < 2) (hQ : gbs (gmask C n p) 15 ≤ n → Q (nI (((if w = 0 then 10 - c else 10) / Nat.gcd (10 - c) 10) ^ (n - gbs (gmask C n p) 15)))) : p_X10_asked size most cells (nI p) (nI c) (nI w) Q := by
  have e := hT.mask
  obtain ⟨hn, -, hm, rfl, rfl, -⟩ := hT
  unfold p_X10_asked
  refine s_oR_in hp (by decide) rfl ⟨fun _ => s_X9_isInBox hm hp ?_, g00⟩
  rw [if_pos hb]
  refine ⟨g10, fun _ => s_oR_in hc (by decide) rfl ⟨fun _ => ?_, g00⟩⟩
  have hlt := gmask_lt C n p
  have hp2 := gm_p2 n hn
  have hgb : gbs (gmask C n p) 15 ≤ n := by
    have := gbs_const hlt (15 - n)
    rw [show n + (15 - n) = 15 by omega] at this
    rw [this]
    exact gbs_le _ _
  have e10 : (10 : Int32) - nI c = nI (10 - c) := pk_sub (a := 10) (by omega)
  have eL : (10 : Int32) = nI 10 := rfl
  obtain ⟨-, -, -, -, g1, g2, -, -⟩ := gask c hc 0 (by decide)
  refine s_oR_in hw (by decide) rfl ⟨fun _ => s_X9_holdingAt hn hp ?_, g00⟩
  rw [e]
  refine s_bitCount (by omega) ?_
  rw [e10, pk_sub hgb]
  have fin : ∀ (b : Nat), b < 2 ^ 30 → b = (if w = 0 then 10 - c else 10) → p_X10_asked_98 (nI (n - gbs (gmask C n p) 15)) (nI (Nat.gcd (10 - c) 10)) (nI b) Q := by
    intro b hb30 hbe
    unfold p_X10_asked_98
    have ei : (if nI (Nat.gcd (10 - c) 10) < (1 : Int32) then (1 : Int32) else nI (Nat.gcd (10 - c) 10)) = nI (Nat.gcd (10 - c) 10) := by
      refine if_neg (fun z => ?_)
      rw [gl_1, nI_ltI (by omega) (by decide)] at z
      omega
    rw [ei]
    refine ⟨nI_ne0 g1 (by omega), fun z hz => ?_⟩
    rw [gx_d _ _ (by omega) g1 (by omega)] at hz
    subst hz
    refine s_power (by omega) ?_
    rw [hbe]
    exact hQ hgb
  rw [eL]
  refine s_X2_gdN (by omega) (by decide) ⟨fun g => ?_, fun g => ?_⟩
  · rw [gl_0, nI_eq (by omega) (by decide)] at g
    exact fin _ (by omega) (by rw [if_pos g])
  · rw [gl_0, nI_eq (by omega) (by decide)] at g
    exact fin _ (by decide) (by rw [if_neg g])
end KP
