/-! add -/
theorem gdig_lt (f v : Nat) : gdig f v < 20 := Nat.mod_lt _ (by decide)
theorem gdig_val {f v : Nat} (h : gdig f v ≤ 18) : -9 ≤ (nI (gdig f v) - (9 : Int32)).toInt ∧ (nI (gdig f v) - (9 : Int32)).toInt ≤ 9 := by
  rw [gl_9, pk_sub_toInt (by omega) (by omega)]
  omega
theorem gSnap_add {n mo f kd : Nat} {cells cells' now now' : Nat → Int32} {size most draw rest : Int32} (hS : gSnap n mo cells size most draw now) (hn : n < 8) (hd : ∀ v, v < 4 → gdig f v ≤ 18) (hk : kd ≤ 4) (hr : -99 ≤ rest.toInt ∧ rest.toInt ≤ 99)
    (c1 : ∀ q, q < 6 * n → cells' q = cells q) (c2 : ∀ v, v < 4 → cells' (6 * n + v) = nI (gdig f (3 - v)) - 9) (c3 : cells' (6 * n + 4) = rest) (c4 : cells' (6 * n + 5) = nI kd)
    (n0 : now' 0 = nI (n + 1)) (n1 : ∀ q, q ≠ 0 → q < 3 + 6 * n → now' q = now q) (n2 : ∀ v, v < 4 → now' (3 + 6 * n + v) = nI (gdig f (3 - v)) - 9) (n3 : now' (3 + 6 * n + 4) = rest) (n4 : now' (3 + 6 * n + 5) = nI kd) : gSnap (n + 1) mo cells' (nI (n + 1)) most draw now' := by
  obtain ⟨g1, g2, g3, g4, g5, g6, g7, g8, g9, g10, g11⟩ := hS
  refine ⟨by omega, g2, g3, rfl, g5, n0, by rw [n1 1 (by decide) (by omega), g7], by rw [n1 2 (by decide) (by omega), g8], g9, fun k hk j hj => ?_, fun k hk => ?_⟩
  · by_cases e : k = n
    · subst e
      rcases (show j < 4 ∨ j = 4 ∨ j = 5 by omega) with h | rfl | rfl
      · rw [c2 j h, n2 j h]
      · rw [c3, n3]
      · rw [c4, n4]
    · rw [c1 _ (by omega), n1 _ (by omega) (by omega)]
      exact g10 k (by omega) j hj
  · by_cases e : k = n
    · subst e
      refine ⟨fun j hj => ?_, ?_, kd, by omega, c4⟩
      · rw [c2 j hj]
        exact gdig_val (hd _ (by omega))
      · rw [c3]; exact hr
    · obtain ⟨r1, r2, r3⟩ := g11 k (by omega)
      refine ⟨fun j hj => ?_, ?_, ?_⟩
      · rw [c1 _ (by omega)]; exact r1 j hj
      · rw [c1 _ (by omega)]; exact r2
      · rw [c1 _ (by omega)]; exact r3
/-! count -/
theorem gfull_fn {n mo : Nat} {cells now : Nat → Int32} {size most draw : Int32} (hS : gSnap n mo cells size most draw now) : gfull (fun k j => cells (6 * k + j)) n mo = gfull (fun k j => now (3 + 6 * k + j)) n mo := by
  obtain ⟨hn, -, -, rfl, -, h0, -, -, -, hc, -⟩ := hS
  funext p
  exact gfull_cg hc
/-! turn -/
theorem gm_neg {x : Int32} {b : Nat} (hb : b < 1000) (h : -(b : Int) ≤ x.toInt ∧ x.toInt ≤ b) : -(b : Int) ≤ (-x).toInt ∧ (-x).toInt ≤ b := by
  rw [Int32.toInt_neg, gm_bm (by omega) (by omega)]
  omega
theorem gSnap_neg {n mo k : Nat} {cells cells' now now' : Nat → Int32} {size most draw : Int32} (hS : gSnap n mo cells size most draw now) (hk : k < n) (c1 : ∀ j, j < 5 → cells' (6 * k + j) = -cells (6 * k + j)) (c2 : ∀ q, ¬ (6 * k ≤ q ∧ q < 6 * k + 5) → cells' q = cells q) (n1 : ∀ j, j < 5 → now' (3 + 6 * k + j) = -now (3 + 6 * k + j)) (n2 : ∀ q, ¬ (3 + 6 * k ≤ q ∧ q < 3 + 6 * k + 5) → now' q = now q) : gSnap n mo cells' size most draw now' := by
  obtain ⟨g1, g2, g3, g4, g5, g6, g7, g8, g9, g10, g11⟩ := hS
  refine ⟨g1, g2, g3, g4, g5, by rw [n2 0 (by omega), g6], by rw [n2 1 (by omega), g7], by rw [n2 2 (by omega), g8], g9, fun k' hk' j hj => ?_, fun k' hk' => ?_⟩
  · by_cases e : k' = k ∧ j < 5
    · obtain ⟨rfl, e⟩ := e
      rw [c1 j e, n1 j e, g10 k' hk' j hj]
    · rw [c2 _ (by omega), n2 _ (by omega)]
      exact g10 k' hk' j hj
  · obtain ⟨r1, r2, r3⟩ := g11 k' hk'
    by_cases e : k' = k
    · subst e
      refine ⟨fun j hj => ?_, ?_, ?_⟩
      · rw [c1 j (by omega)]
        exact gm_neg (b := 9) (by decide) (r1 j hj)
      · rw [c1 4 (by omega)]
        exact gm_neg (b := 99) (by decide) r2
      · rw [c2 _ (by omega)]
        exact r3
    · refine ⟨fun j hj => ?_, ?_, ?_⟩
      · rw [c2 _ (by omega)]; exact r1 j hj
      · rw [c2 _ (by omega)]; exact r2
      · rw [c2 _ (by omega)]; exact r3
theorem s_X9_negate {k : Nat} {changes : Int32} {cells : Nat → Int32} {Q : Int32 → (Nat → Int32) → Prop} (hk : k < 8) (hQ : ∀ c', (∀ j, j < 5 → c' (6 * k + j) = -cells (6 * k + j)) → (∀ q, ¬ (6 * k ≤ q ∧ q < 6 * k + 5) → c' q = cells q) → Q (changes + nI 5) c') : p_X9_negate changes cells (nI k) Q := by
  unfold p_X9_negate
  refine gi3_inv 5 (fun i a b c => a = nI i ∧ b = changes + nI i ∧ (∀ j, j < i → c (6 * k + j) = -cells (6 * k + j)) ∧ ∀ q, ¬ (6 * k ≤ q ∧ q < 6 * k + i) → c q = cells q) ?_ ?_ ⟨rfl, by rw [nI_0, Int32.add_zero], fun j hj => absurd hj (Nat.not_lt_zero j), fun _ _ => rfl⟩
  · rintro i hi X a b c ⟨rfl, rfl, c1, c2⟩ hX
    unfold p_X9_negate_2 p_X9_cell p_X9_setCell
    refine ⟨fun g => ?_, fun _ => ⟨gx_in _ (gx_6 k i) (by omega) (by decide), gx_in _ (gx_6 k i) (by omega) (by decide), ?_⟩⟩
    · rw [gl_4, nI_ltI (by decide) (by omega)] at g; omega
    · rw [gx_cl _ (gx_6 k i) (by omega)]
      refine hX _ _ _ ⟨by rw [gl_1, nI_add], by rw [Int32.add_assoc, gl_1, nI_add], fun j hj => ?_, fun q hq => ?_⟩
      · by_cases e : j = i
        · subst e
          rw [pk_us, c2 _ (by omega)]
        · rw [pk_un (by omega)]
          exact c1 j (by omega)
      · rw [pk_un (by omega)]
        exact c2 q (by omega)
  · rintro X a b c ⟨rfl, rfl, c1, c2⟩
    unfold p_X9_negate_2
    exact ⟨fun _ => hQ c c1 c2, fun g => absurd (by rw [gl_4, nI_ltI (by decide) (by decide)]; omega) g⟩
