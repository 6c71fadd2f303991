/-! the calls that are soon done -/
theorem g10 {A : Prop} (h : (1 : Int32) = 0) : A := absurd h (by decide)
theorem g00 {A : Prop} (h : ¬ (0 : Int32) = 0) : A := absurd rfl h
theorem gx_m6j (k j : Nat) : (3 : Int32) + ((6 : Int32) * nI k) + nI j = nI (3 + 6 * k + j) := by
  rw [gx_m6, nI_add]
theorem gsum_cg {C D : Nat → Int32} {p : Nat} (h : ∀ j, j < 5 → C j = D j) : gsum C p = gsum D p := by
  unfold gsum
  rw [h 0 (by decide), h 1 (by decide), h 2 (by decide), h 3 (by decide), h 4 (by decide)]
theorem gmask_cg {C D : Nat → Nat → Int32} {n p : Nat} (h : ∀ k, k < n → ∀ j, j < 6 → C k j = D k j) : gmask C n p = gmask D n p := by
  induction n with
  | zero => rfl
  | succ n ih =>
    show gmask C n p + _ = gmask D n p + _
    rw [ih (fun k hk => h k (by omega)), h n (by omega) 5 (by decide), gsum_cg (fun j hj => h n (by omega) j (by omega))]
theorem gfull_cg {C D : Nat → Nat → Int32} {n most p : Nat} (h : ∀ k, k < n → ∀ j, j < 6 → C k j = D k j) : gfull C n most p = gfull D n most p := by
  unfold gfull
  rw [gmask_cg h]
/-! the tape -/
def gTape (t : Nat) (length : Int32) (letters : Nat → Int32) (taped : Int32) (tape : Nat → Int32) : Prop := t ≤ 130 ∧ length = nI t ∧ taped = nI t ∧ ∀ i, i < t → letters i = tape i ∧ ∃ c, 32 ≤ c ∧ c ≤ 126 ∧ tape i = nI c
theorem gm_char : ∀ c, c < 127 → vp_nar .char (((nI c).toUInt32 % 65536).toInt32) = nI c := by decide +kernel
theorem gm_ch2 {c : Nat} (h : c < 127) : vp_nar .char (((nI c).toUInt32 % 65536).toInt32) = nI c := gm_char c h
theorem gm_rng {x : Int32} {a b : Nat} (ha : a ≤ b) (hb : b < 2 ^ 31) : (∃ c, a ≤ c ∧ c ≤ b ∧ x = nI c) ↔ ((a : Int) ≤ x.toInt ∧ x.toInt ≤ b) := by
  constructor
  · rintro ⟨k, h1, h2, rfl⟩
    rw [nI_toInt (by omega)]
    omega
  · intro h
    refine ⟨x.toInt.toNat, by omega, by omega, ?_⟩
    apply Int32.toInt_inj.mp
    rw [nI_toInt (by omega)]
    omega
/-! sheets -/
def gSheets (items : Nat → Int64) (lanes sizes : Nat → Int32) (items' : Nat → Int64) (lanes' sizes' : Nat → Int32) : Prop := ∀ s, s < 4 → lanes s = lanes' s ∧ sizes s = sizes' s ∧ (lanes s = -1 ∨ ∃ l, l < 4 ∧ lanes s = nI l) ∧ ∃ z, z ≤ 24 ∧ sizes s = nI z ∧ (¬ lanes s = -1 → ∀ j, j < z → items (24 * s + j) = items' (24 * s + j))
theorem s_noSL_in {s l : Nat} {Q : Int32 → Prop} (hs : s < 4) (hl : l < 4) (hQ : Q 0) : p_X10_isNoSheetOrLane (nI s) (nI l) Q := by
  unfold p_X10_isNoSheetOrLane
  exact s_oR_in hs (by decide) rfl ⟨fun _ => s_oR_in hl (by decide) rfl ⟨fun _ => hQ, g00⟩, g00⟩
theorem s_noSL_out {x y : Int32} {Q : Int32 → Prop} (h : ¬ ((∃ s, s < 4 ∧ x = nI s) ∧ ∃ l, l < 4 ∧ y = nI l)) (hQ : Q 1) : p_X10_isNoSheetOrLane x y Q := by
  unfold p_X10_isNoSheetOrLane
  by_cases h1 : ∃ s, s < 4 ∧ x = nI s
  · have h2 : ¬ ∃ l, l < 4 ∧ y = nI l := fun z => h ⟨h1, z⟩
    obtain ⟨s, hs, rfl⟩ := h1
    exact s_oR_in hs (by decide) rfl ⟨fun _ => s_oR_out h2 (by decide) (by decide) rfl ⟨g10, fun _ => hQ⟩, g00⟩
  · exact s_oR_out h1 (by decide) (by decide) rfl ⟨g10, fun _ => hQ⟩
theorem gm_lane {lanes : Nat → Int32} {s : Nat} (h : lanes s = -1 ∨ ∃ l, l < 4 ∧ lanes s = nI l) : (0 ≤ lanes s) ↔ ¬ lanes s = -1 := by
  rcases h with h | ⟨l, hl, h⟩
  · rw [h]; decide
  · rw [h, gl_0, nI_leI (by decide) (by omega)]
    exact ⟨fun _ e => gm_ne1 l (by omega) e.symm, fun _ => Nat.zero_le l⟩
theorem gx_24 (s j : Nat) : nI s * (24 : Int32) + nI j = nI (24 * s + j) := by
  rw [show (24 : Int32) = nI 24 from rfl, pk_mul, nI_add, Nat.mul_comm]
theorem gx_24m (s j : Nat) : (24 : Int32) * nI s + nI j = nI (24 * s + j) := by
  rw [show (24 : Int32) = nI 24 from rfl, pk_mul, nI_add]
