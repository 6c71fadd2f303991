/-! copy, seen -/
theorem s_bey {sizes : Nat → Int32} {s z : Nat} {i n : Int32} {Q : Int32 → Prop} (hs : s < 4) (hz : z ≤ 24) (hsz : sizes s = nI z) (h1 : 0 ≤ i.toInt ∧ 0 ≤ n.toInt ∧ i.toInt + n.toInt ≤ z → Q 0) (h2 : ¬ (0 ≤ i.toInt ∧ 0 ≤ n.toInt ∧ i.toInt + n.toInt ≤ z) → Q 1) : p_X7_isBeyond sizes (nI s) i n Q := by
  unfold p_X7_isBeyond
  have hz0 : (0 : Int32).toInt = 0 := rfl
  refine ⟨fun g => h2 ?_, fun g => ⟨fun g2 => h2 ?_, fun g2 => ⟨vp_in_nI hs (by decide), ?_⟩⟩⟩
  · rw [Int32.lt_iff_toInt_lt] at g; omega
  · rw [Int32.lt_iff_toInt_lt] at g2; omega
  · rw [Int32.lt_iff_toInt_lt] at g g2
    rw [nI_clamp (by omega), hsz]
    have hn := Int32.toInt_lt n
    have hd : (nI z - n).toInt = (z : Int) - n.toInt := by
      rw [Int32.toInt_sub, nI_toInt (by omega), gm_bm (by omega) (by omega)]
    rw [Int32.le_iff_toInt_le, hd]
    exact ⟨fun g3 => h1 (by omega), fun g3 => h2 (by omega)⟩
theorem gm_l64 (a b : Int32) : (a.toInt64 + b.toInt64).toInt = a.toInt + b.toInt := by
  have h1 := Int32.le_toInt a
  have h2 := Int32.toInt_lt a
  have h3 := Int32.le_toInt b
  have h4 := Int32.toInt_lt b
  rw [Int64.toInt_add, gm_l, gm_l]
  simp only [Int.bmod]
  omega
theorem gm_cmp_le (x y : Int64) : (lg_cmp x y ≤ 0) ↔ x.toInt ≤ y.toInt := by
  have h := gm_cmp_gt x y
  constructor
  · intro g
    apply Int.not_lt.mp
    intro z
    exact Int32.not_lt.mpr g (h.mpr z)
  · intro g
    apply Int32.not_lt.mp
    intro z
    have := h.mp z
    omega
def gCopy (items : Nat → Int64) (f i t j n : Nat) : Nat → Int64 := fun q => if 24 * t + j ≤ q ∧ q < 24 * t + j + n then items (24 * f + i + (q - (24 * t + j))) else items q
theorem gS_copy {items items' : Nat → Int64} {lanes sizes lanes' sizes' : Nat → Int32} (hS : gSheets items lanes sizes items' lanes' sizes') {f i t j n zf : Nat} (hf : f < 4) (hlf : ¬ lanes f = -1) (hzf : sizes f = nI zf) (hz24 : zf ≤ 24) (hi : i + n ≤ zf) : gSheets (gCopy items f i t j n) lanes sizes (gCopy items' f i t j n) lanes' sizes' := by
  intro s hs
  obtain ⟨h1, h2, h3, z, h4, h5, h6⟩ := hS s hs
  refine ⟨h1, h2, h3, z, h4, h5, fun hl q hq => ?_⟩
  unfold gCopy
  by_cases e : 24 * t + j ≤ 24 * s + q ∧ 24 * s + q < 24 * t + j + n
  · rw [if_pos e, if_pos e]
    obtain ⟨-, -, -, z', g4, g5, g6⟩ := hS f hf
    have : z' = zf := by
      rw [g5] at hzf
      exact (nI_eq (by omega) (by omega)).mp hzf
    subst this
    rw [Nat.add_assoc]
    exact g6 hlf _ (by omega)
  · rw [if_neg e, if_neg e]
    exact h6 hl q hq
