/-! what is told: changed, shaped, called, taken back, kept -/
theorem gSnap_set {n mo k j : Nat} {cells now : Nat → Int32} {size most draw v : Int32} (hS : gSnap n mo cells size most draw now) (hk : k < n) (hj : j < 6) (h4 : j < 4 → -9 ≤ v.toInt ∧ v.toInt ≤ 9) (h5 : j = 4 → -99 ≤ v.toInt ∧ v.toInt ≤ 99) (h6 : j = 5 → ∃ c, c ≤ 4 ∧ v = nI c) : gSnap n mo (upd cells (6 * k + j) v) size most draw (upd now (3 + 6 * k + j) v) := by
  obtain ⟨g1, g2, g3, g4, g5, g6, g7, g8, g9, g10, g11⟩ := hS
  refine ⟨g1, g2, g3, g4, g5, by rw [pk_un (by omega), g6], by rw [pk_un (by omega), g7], by rw [pk_un (by omega), g8], g9, fun k' hk' j' hj' => ?_, fun k' hk' => ⟨fun j' hj' => ?_, ?_, ?_⟩⟩
  · by_cases e : 6 * k' + j' = 6 * k + j
    · rw [e, show 3 + 6 * k' + j' = 3 + 6 * k + j by omega, pk_us, pk_us]
    · rw [pk_un e, pk_un (by omega)]
      exact g10 k' hk' j' hj'
  · by_cases e : 6 * k' + j' = 6 * k + j
    · rw [e, pk_us]
      exact h4 (by omega)
    · rw [pk_un e]
      exact (g11 k' hk').1 j' hj'
  · by_cases e : 6 * k' + 4 = 6 * k + j
    · rw [e, pk_us]
      exact h5 (by omega)
    · rw [pk_un e]
      exact (g11 k' hk').2.1
  · by_cases e : 6 * k' + 5 = 6 * k + j
    · rw [e, pk_us]
      exact h6 (by omega)
    · rw [pk_un e]
      exact (g11 k' hk').2.2
theorem s_X10_replace {k j u : Nat} {known size most draw changes v : Int32} {cells past : Nat → Int32} {Q : Int32 → Int32 → Int32 → (Nat → Int32) → (Nat → Int32) → Prop} (hk : k < 8) (hj : j < 6) (hu : u ≤ 8) (hkn : known = nI u) (h1 : cells (6 * k + j) = v → Q (-1000002) known changes cells past)
    (h2 : ¬ cells (6 * k + j) = v → ∀ w d past', gSlot u w d → (∀ i, i < w → ∀ q, q < 51 → past' (51 * i + q) = past (51 * (i + d) + q)) → (∀ q, q < 48 → past' (51 * w + q) = cells q) → past' (51 * w + 48) = size → past' (51 * w + 49) = most → past' (51 * w + 50) = draw → Q (cells (6 * k + j)) (nI (w + 1)) (changes + 1) (upd cells (6 * k + j) v) past') : p_X10_replace known size most draw changes cells past (nI k) (nI j) v Q := by
  unfold p_X10_replace p_X9_cell p_X9_setCell
  refine ⟨gx_in _ (gx_6 k j) (by omega) (by decide), ?_⟩
  rw [gx_cl _ (gx_6 k j) (by omega)]
  refine ⟨h1, fun g => s_X0_keep hu hkn (fun w d past' hs p1 p2 p3 p4 p5 => ⟨gx_in _ (gx_6 k j) (by omega) (by decide), h2 g w d past' hs p1 p2 p3 p4 p5⟩)⟩
theorem gSnap_most {n mo m : Nat} {cells now : Nat → Int32} {size most draw : Int32} (hS : gSnap n mo cells size most draw now) (h1 : 1 ≤ m) (h7 : m ≤ 7) : gSnap n m cells size (nI m) draw (upd now 1 (nI m)) := by
  obtain ⟨g1, g2, g3, g4, g5, g6, g7, g8, g9, g10, g11⟩ := hS
  refine ⟨g1, h1, h7, g4, rfl, by rw [pk_un (by decide), g6], pk_us, by rw [pk_un (by decide), g8], g9, fun k hk j hj => ?_, g11⟩
  rw [pk_un (by omega)]
  exact g10 k hk j hj
