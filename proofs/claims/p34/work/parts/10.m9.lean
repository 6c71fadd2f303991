theorem s_X0_take {known size most draw changes : Int32} {cells past : Nat → Int32} {k' s' m' d' : Int32} {c' p' : Nat → Int32} {Q : Int32 → Int32 → Int32 → Int32 → Int32 → (Nat → Int32) → (Nat → Int32) → Prop} (hQ : ∀ c2 p2, (∀ q, q < 48 → c2 q = c' q) → (∀ q, q < 408 → p2 q = p' q) → Q k' s' m' d' (changes + 1) c2 p2) : p_X0_take known size most draw changes cells past k' s' m' d' c' p' Q := by
  unfold p_X0_take p_X9_take
  refine ⟨by decide, by decide, by decide, by decide, by decide, by decide, by decide, by decide, by decide, by decide, hQ _ _ (fun q hq => ?_) (fun q hq => ?_)⟩
  · rw [gcl_48, gcl_0, pk_cpy_in (by omega) (by omega)]
    congr 1
    omega
  · rw [gcl_408, gcl_0, pk_cpy_in (by omega) (by omega)]
    congr 1
    omega
theorem gBook.cg {n mo u : Nat} {cells past now ahead cells' past' now' ahead' : Nat → Int32} {size most draw known undos : Int32} (hB : gBook n mo u cells size most draw known past now undos ahead) (h1 : ∀ q, q < 48 → cells' q = cells q) (h2 : ∀ q, q < 408 → past' q = past q) (h3 : ∀ q, q < 51 → now' q = now q) (h4 : ∀ q, q < 408 → ahead' q = ahead q) : gBook n mo u cells' size most draw known past' now' undos ahead' := by
  obtain ⟨hS, hu, hkn, hun, hP⟩ := hB
  exact ⟨hS.cg h1 h3, hu, hkn, hun, hP.cg hu h2 h4⟩
/-- a row of the other class copied into another one -/
theorem s_cp51 {f : (Int32 → (Nat → Int32) → Prop) → Int32 → (Nat → Int32) → Prop} {src dst : Nat → Int32} (N : Nat) (hN : N < 2 ^ 31)
    (hs : ∀ i, i < N → ∀ (X : Int32 → (Nat → Int32) → Prop) b, X (nI (i + 1)) (upd b i (src i)) → f X (nI i) b) (he : ∀ (X : Int32 → (Nat → Int32) → Prop) b, (∀ q, q < N → b q = src q) → f X (nI N) b) : ∃ k, gi2 f k (0 : Int32) dst := by
  refine gi2_inv N (fun i a b => a = nI i ∧ ∀ q, q < i → b q = src q) ?_ ?_ ⟨rfl, fun q hq => absurd hq (Nat.not_lt_zero q)⟩
  · rintro i hi X a b ⟨rfl, hb⟩ hX
    refine hs i hi X b (hX _ _ ⟨rfl, fun q hq => ?_⟩)
    by_cases e : q = i
    · subst e; rw [pk_us]
    · rw [pk_un e]; exact hb q (by omega)
  · rintro X a b ⟨rfl, hb⟩
    exact he X b hb
theorem gl_51 : (51 : Int32) = nI 51 := rfl
theorem gl_408 : (408 : Int32) = nI 408 := rfl
/-- the image -/
def gKept (has : Int32) (cells : Nat → Int32) (size most draw known : Int32) (past kept : Nat → Int32) (keptUndos : Int32) (keptAhead : Nat → Int32) : Prop := (has = 0 ∧ keptUndos = -1) ∨ (has = 1 ∧ ∃ n mo u, gBook n mo u cells size most draw known past kept keptUndos keptAhead)
