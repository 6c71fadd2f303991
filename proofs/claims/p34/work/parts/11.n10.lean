/-! dropped, added -/
theorem gSnap_drop {n mo k : Nat} {cells cells' now now' : Nat → Int32} {size most draw : Int32} (hS : gSnap n mo cells size most draw now) (hk : k < n) (c1 : ∀ q, 6 * k ≤ q → q < 42 → cells' q = cells (q + 6)) (c2 : ∀ q, q < 6 * k → cells' q = cells q) (n0 : now' 0 = nI (n - 1)) (n1 : ∀ q, 3 + 6 * k ≤ q → q < 3 + 6 * (n - 1) → now' q = now (q + 6)) (n2 : ∀ q, q ≠ 0 → q < 3 + 6 * k → now' q = now q) : gSnap (n - 1) mo cells' (nI (n - 1)) most draw now' := by
  obtain ⟨g1, g2, g3, g4, g5, g6, g7, g8, g9, g10, g11⟩ := hS
  have cc : ∀ k', k' < n - 1 → ∀ j, j < 6 → ∃ k'', k'' < n ∧ cells' (6 * k' + j) = cells (6 * k'' + j) ∧ now' (3 + 6 * k' + j) = now (3 + 6 * k'' + j) := by
    intro k' hk' j hj
    by_cases e : k ≤ k'
    · refine ⟨k' + 1, by omega, ?_, ?_⟩
      · rw [c1 _ (by omega) (by omega)]
        congr 1
        omega
      · rw [n1 _ (by omega) (by omega)]
        congr 1
        omega
    · exact ⟨k', by omega, c2 _ (by omega), n2 _ (by omega) (by omega)⟩
  refine ⟨by omega, g2, g3, rfl, g5, n0, by rw [n2 1 (by decide) (by omega), g7], by rw [n2 2 (by decide) (by omega), g8], g9, fun k' hk' j hj => ?_, fun k' hk' => ?_⟩
  · obtain ⟨k'', h1, h2, h3⟩ := cc k' hk' j hj
    rw [h2, h3]
    exact g10 k'' h1 j hj
  · have c6 : ∃ k'', k'' < n ∧ ∀ j, j < 6 → cells' (6 * k' + j) = cells (6 * k'' + j) := by
      by_cases e : k ≤ k'
      · refine ⟨k' + 1, by omega, fun j hj => ?_⟩
        rw [c1 _ (by omega) (by omega)]
        congr 1
        omega
      · exact ⟨k', by omega, fun j hj => c2 _ (by omega)⟩
    obtain ⟨k'', h1, h2⟩ := c6
    obtain ⟨r1, r2, r3⟩ := g11 k'' h1
    refine ⟨fun j hj => ?_, ?_, ?_⟩
    · rw [h2 j (by omega)]; exact r1 j hj
    · rw [h2 4 (by decide)]; exact r2
    · rw [h2 5 (by decide)]; exact r3
def gdig (f v : Nat) : Nat := f / 20 ^ v % 20
theorem gx_20r (a : Nat) (h : a < 2 ^ 31) : nI a - nI a / (20 : Int32) * (20 : Int32) = nI (a % 20) := pk_rem (d := 20) h (by decide) (by decide)
theorem gx_20d (a : Nat) (h : a < 2 ^ 31) : nI a / (20 : Int32) = nI (a / 20) := pk_div (d := 20) h (by decide) (by decide)
theorem g20s (f i : Nat) : f / 20 ^ i / 20 = f / 20 ^ (i + 1) := by rw [Nat.div_div_eq_div_mul, Nat.pow_succ]
theorem s_aF_loop {f : Nat} {Q : Int32 → Prop} (hf : f < 160000) (h1 : (∀ v, v < 4 → gdig f v ≤ 18) → Q 1) (h2 : ¬ (∀ v, v < 4 → gdig f v ≤ 18) → Q 0) : p_X9_areFactors (nI f) Q := by
  unfold p_X9_areFactors
  refine s_oR_in (n := 160000) hf (by decide) rfl ⟨fun _ => ?_, g00⟩
  have hd : ∀ i, f / 20 ^ i < 2 ^ 31 := fun i => Nat.lt_of_le_of_lt (Nat.div_le_self _ _) (by omega)
  refine gi2_inv 4 (fun i a b => b = nI i ∧ a = nI (f / 20 ^ i) ∧ ∀ v, v < i → gdig f v ≤ 18) ?_ ?_ ⟨rfl, by rw [Nat.pow_zero, Nat.div_one], fun v hv => absurd hv (Nat.not_lt_zero v)⟩
  · rintro i hi X a b ⟨rfl, rfl, hv⟩ hX
    unfold p_X9_areFactors_16
    refine ⟨fun g => ?_, fun _ => ?_⟩
    · rw [gl_4, nI_leI (by decide) (by omega)] at g; omega
    · rw [gx_20r _ (hd i), gx_20d _ (hd i), g20s]
      have hm : f / 20 ^ i % 20 < 20 := Nat.mod_lt _ (by decide)
      refine ⟨fun g => hX _ _ ⟨by rw [gl_1, nI_add], rfl, fun v hv' => ?_⟩, fun g => h2 (fun z => ?_)⟩
      · rw [show (18 : Int32) = nI 18 from rfl, nI_leI (by omega) (by decide)] at g
        by_cases e : v = i
        · subst e; exact g
        · exact hv v (by omega)
      · rw [show (18 : Int32) = nI 18 from rfl, nI_leI (by omega) (by decide)] at g
        exact g (z i hi)
  · rintro X a b ⟨rfl, rfl, hv⟩
    unfold p_X9_areFactors_16
    exact ⟨fun _ => h1 hv, fun g => absurd (by rw [gl_4, nI_leI (by decide) (by decide)]; omega) g⟩
theorem s_aF_out {x : Int32} {Q : Int32 → Prop} (h : ¬ ∃ k, k < 160000 ∧ x = nI k) (hQ : Q 0) : p_X9_areFactors x Q := by
  unfold p_X9_areFactors
  exact s_oR_out h (by decide) (by decide) rfl ⟨g10, fun _ => hQ⟩
theorem s_X9_append {n f : Nat} {changes x1 x3 : Int32} {cells : Nat → Int32} {Q : Int32 → Int32 → (Nat → Int32) → Prop} (hn : n < 8) (hf : f < 160000) (hQ : ∀ c', (∀ q, q < 6 * n → c' q = cells q) → (∀ v, v < 4 → c' (6 * n + v) = nI (gdig f (3 - v)) - 9) → c' (6 * n + 4) = x3 → c' (6 * n + 5) = x1 → Q (nI (n + 1)) (changes + nI 6) c') : p_X9_append (nI n) changes cells x1 (nI f) x3 Q := by
  unfold p_X9_append
  have hd : ∀ i, f / 20 ^ i < 2 ^ 31 := fun i => Nat.lt_of_le_of_lt (Nat.div_le_self _ _) (by omega)
  refine gi4_inv 4 (fun i a b c d => a = nI (f / 20 ^ i) ∧ b.toInt = (3 : Int) - (i : Int) ∧ c = changes + nI i ∧ (∀ q, q < 6 * n → d q = cells q) ∧ ∀ v, v < 4 → 4 ≤ v + i → d (6 * n + v) = nI (gdig f (3 - v)) - 9) ?_ ?_ ⟨by rw [Nat.pow_zero, Nat.div_one], rfl, by rw [nI_0, Int32.add_zero], fun _ _ => rfl, fun v _ _ => by omega⟩
  · rintro i hi X a b c d ⟨rfl, hb, rfl, d1, d2⟩ hX
    have eb : b = nI (3 - i) := by
      apply Int32.toInt_inj.mp
      rw [hb, nI_toInt (by omega)]
      omega
    subst eb
    have ex := gx_6 n (3 - i)
    unfold p_X9_append_6 p_X9_setCell
    refine ⟨fun g => absurd g (nI_pos (by omega)), fun _ => ⟨gx_in _ ex (by omega) (by decide), ?_⟩⟩
    rw [gx_cl _ ex (by omega), gx_20r _ (hd i), gx_20d _ (hd i), g20s]
    refine hX _ _ _ _ ⟨rfl, ?_, ?_, fun q hq => ?_, fun v hv hv' => ?_⟩
    · rw [Int32.toInt_add, hb, show (-1 : Int32).toInt = -1 from rfl, gm_bm (by omega) (by omega)]
      omega
    · rw [Int32.add_assoc, gl_1, nI_add]
    · rw [pk_un (by omega)]; exact d1 q hq
    · by_cases e : v = 3 - i
      · subst e
        rw [pk_us]
        have : 3 - (3 - i) = i := by omega
        rw [this]
        rfl
      · rw [pk_un (by omega)]; exact d2 v hv (by omega)
  · rintro X a b c d ⟨rfl, hb, rfl, d1, d2⟩
    have e4 := gx_6 n 4
    have e5 := gx_6 n 5
    unfold p_X9_append_6 p_X9_setCell
    refine ⟨fun _ => ⟨gx_in _ e4 (by omega) (by decide), gx_in _ e5 (by omega) (by decide), ?_⟩, fun g => absurd (by rw [Int32.lt_iff_toInt_lt, hb]; show _ < (0 : Int); omega) g⟩
    have t4 : (nI n * (6 : Int32) + (4 : Int32)).toNatClampNeg = 6 * n + 4 := gx_cl _ e4 (by omega)
    have t5 : (nI n * (6 : Int32) + (5 : Int32)).toNatClampNeg = 6 * n + 5 := gx_cl _ e5 (by omega)
    rw [t4, t5]
    have ec : changes + nI 4 + (1 : Int32) + (1 : Int32) = changes + nI 6 := by
      rw [Int32.add_assoc, Int32.add_assoc]
      rfl
    have en : nI n + (1 : Int32) = nI (n + 1) := nI_add n 1
    rw [ec, en]
    refine hQ _ (fun q hq => ?_) (fun v hv => ?_) ?_ ?_
    · rw [pk_un (by omega), pk_un (by omega)]; exact d1 q hq
    · rw [pk_un (by omega), pk_un (by omega)]; exact d2 v hv (by omega)
    · rw [pk_un (by omega), pk_us]
    · rw [pk_us]
