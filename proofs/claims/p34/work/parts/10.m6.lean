/-! sheets: what their calls do -/
def gcut (l : Int32) (v : Int64) : Int64 := if l = 0 then ((v.toInt32).toInt8.toInt32).toInt64 else if l = 1 then ((v.toInt32).toInt16.toInt32).toInt64 else if l = 2 then (v.toInt32).toInt64 else v
theorem s_lowest {l : Int32} {v : Int64} {Q : Int64 → Prop} (hQ : Q (gcut l v)) : p_X7_lowestBits l v Q := by
  unfold p_X7_lowestBits
  unfold gcut at hQ
  refine ⟨fun h => by rw [if_pos h] at hQ; exact hQ, fun h => ?_⟩
  rw [if_neg h] at hQ
  refine ⟨fun h => by rw [if_pos h] at hQ; exact hQ, fun h => ?_⟩
  rw [if_neg h] at hQ
  exact ⟨fun h => by rw [if_pos h] at hQ; exact hQ, fun h => by rw [if_neg h] at hQ; exact hQ⟩
theorem gcut_0 (l : Int32) : gcut l 0 = 0 := by
  unfold gcut
  split
  · rfl
  · split
    · rfl
    · split <;> rfl
theorem gcut_m1 (l : Int32) : gcut l (-1) = -1 := by
  unfold gcut
  split
  · rfl
  · split
    · rfl
    · split <;> rfl
theorem s_X7_put {items : Nat → Int64} {lanes : Nat → Int32} {s i : Nat} {v : Int64} {Q : (Nat → Int64) → Prop} (hs : s < 4) (hi : i < 24) (hQ : Q (vp_updL items (24 * s + i) (gcut (lanes s) v))) : p_X7_put items lanes (nI s) (nI i) v Q := by
  unfold p_X7_put
  refine ⟨vp_in_nI hs (by decide), s_lowest ⟨gx_in _ (gx_24 s i) (by omega) (by decide), ?_⟩⟩
  rw [gx_cl _ (gx_24 s i) (by omega), nI_clamp (by omega)]
  exact hQ
theorem gS_put {items items' : Nat → Int64} {lanes sizes lanes' sizes' : Nat → Int32} (hS : gSheets items lanes sizes items' lanes' sizes') {s i : Nat} (v : Int64) : gSheets (vp_updL items (24 * s + i) v) lanes sizes (vp_updL items' (24 * s + i) v) lanes' sizes' := by
  intro t ht
  obtain ⟨h1, h2, h3, z, h4, h5, h6⟩ := hS t ht
  refine ⟨h1, h2, h3, z, h4, h5, fun hl j hj => ?_⟩
  by_cases e : 24 * t + j = 24 * s + i
  · rw [e, pk_uLs, pk_uLs]
  · rw [pk_uLn e, pk_uLn e]
    exact h6 hl j hj
/-- what refuses -/
def gref (ls lane : Int32) (z : Nat) (i : Int32) (n : Nat) : Int32 := if ls = -1 then -1000011 else if ls = lane then (if 0 ≤ i.toInt ∧ i.toInt ≤ (z : Int) - n then 0 else -1000013) else -1000012
theorem s_X7_refusal {lanes sizes : Nat → Int32} {s z n : Nat} {lane i : Int32} {Q : Int32 → Prop} (hs : s < 4) (hz : z ≤ 24) (hsz : sizes s = nI z) (hn : n ≤ 24) (hQ : Q (gref (lanes s) lane z i n)) : p_X7_refusal lanes sizes (nI s) lane i (nI n) Q := by
  unfold p_X7_refusal p_X7_holdsNothing p_X7_isBeyond
  unfold gref at hQ
  refine ⟨vp_in_nI hs (by decide), ?_⟩
  rw [nI_clamp (by omega), hsz]
  refine ⟨fun e => ⟨g10, fun _ => by rw [if_pos e] at hQ; exact hQ⟩, fun e => ⟨fun _ => ⟨vp_in_nI hs (by decide), ?_⟩, g00⟩⟩
  rw [if_neg e] at hQ
  refine ⟨fun e2 => ?_, fun e2 => by rw [if_neg e2] at hQ; exact hQ⟩
  rw [if_pos e2] at hQ
  have hz0 : (0 : Int32).toInt = 0 := rfl
  refine ⟨fun g => ⟨g10, fun _ => ?_⟩, fun g => ⟨fun g2 => ?_, fun _ => ⟨vp_in_nI hs (by decide), fun g3 => ⟨fun _ => ?_, g00⟩, fun g3 => ⟨g10, fun _ => ?_⟩⟩⟩⟩
  · rw [Int32.lt_iff_toInt_lt] at g
    rw [if_neg (by omega)] at hQ
    exact hQ
  · exact absurd g2 (nI_pos (by omega))
  · rw [Int32.lt_iff_toInt_lt] at g
    rw [Int32.le_iff_toInt_le, pk_sub_toInt (by omega) (by omega)] at g3
    rw [if_pos (by omega)] at hQ
    exact hQ
  · rw [Int32.le_iff_toInt_le, pk_sub_toInt (by omega) (by omega)] at g3
    rw [if_neg (by omega)] at hQ
    exact hQ
theorem gref_cases {ls lane i : Int32} {z n : Nat} : (gref ls lane z i n = 0 ∧ ¬ ls = -1 ∧ ls = lane ∧ 0 ≤ i.toInt ∧ i.toInt ≤ (z : Int) - n) ∨ (¬ gref ls lane z i n = 0 ∧ ¬ (0 ≤ gref ls lane z i n)) := by
  unfold gref
  split
  · right; decide
  · split
    · split
      · rename_i h1 h2 h3
        exact Or.inl ⟨rfl, h1, h2, h3.1, h3.2⟩
      · right; decide
    · right; decide
