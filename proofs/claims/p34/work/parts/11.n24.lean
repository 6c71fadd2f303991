/-! row -/
def gC6 (cells : Nat → Int32) (k j : Nat) : Int32 := if j < 6 then cells (6 * k + j) else 0
theorem gC6_B {n : Nat} {cells : Nat → Int32} (hR : gRng n cells) : ∀ k, k < n → ∀ j, j < 5 → gB (gC6 cells k j) 99 := by
  intro k hk j hj
  obtain ⟨r1, r2, -⟩ := hR k hk
  unfold gC6 gB
  rw [if_pos (by omega)]
  by_cases e : j = 4
  · subst e; omega
  · have := r1 j (by omega)
    omega
