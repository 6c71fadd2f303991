/-! sheets: what their calls do -/
def gcut (l : Int32) (v : Int64) : Int64 := if l = 0 then ((v.toInt32).toInt8.toInt32).toInt64 else if l = 1 then ((v.toInt32).toInt16.toInt32).toInt64 else if l = 2 then (v.toInt32).toInt64 else v
theorem s_lowest {l : Int32} {v : Int64} {Q : Int64 → Prop} (hQ : Q (gcut l v)) : p_X7_lowestBits l v Q := by
  unfold p_X7_lowestBits
  unfold gcut at hQ
  refine ⟨fun h => by rw [if_pos h] at hQ; exact hQ, fun h => ?_⟩
  rw [if_neg h] at hQ
  refine ⟨fun h => by rw [if_pos h] at hQ; exact hQ, fun h => ?_⟩
  rw [if_neg h] at hQ
  exact ⟨fun h => by rw [if_pos h] at hQ; exact hQ, fun h => by rw [if_neg h] at hQ; exact hQ⟩
theorem s_cut {l : Int32} {v : Int64} {Q : Int64 → Prop} (hQ : Q (gcut l v)) : p_X11_cut v l Q := by
  unfold p_X11_cut
  unfold gcut at hQ
  refine ⟨fun h => by rw [if_pos h] at hQ; exact hQ, fun h => ?_⟩
  rw [if_neg h] at hQ
  refine ⟨fun h => by rw [if_pos h] at hQ; exact hQ, fun h => ?_⟩
  rw [if_neg h] at hQ
  exact ⟨fun h => by rw [if_pos h] at hQ; exact hQ, fun h => by rw [if_neg h] at hQ; exact hQ⟩
theorem gcut_0 (l : Int32) : gcut l 0 = 0 := by
  unfold gcut
  split
  · rfl
  · split
    · rfl
    · split <;> rfl
theorem gcut_m1 (l : Int32) : gcut l (-1) = -1 := by
  unfold gcut
  split
  · rfl
  · split
    · rfl
    · split <;> rfl
theorem s_X7_put {items : Nat → Int64} {lanes : Nat → Int32} {s i : Nat} {v : Int64} {Q : (Nat → Int64) → Prop} (hs : s < 4) (hi : i < 24) (hQ : Q (vp_updL items (24 * s + i) (gcut (lanes s) v))) : p_X7_put items lanes (nI s) (nI i) v Q := by
  unfold p_X7_put
  refine ⟨vp_in_nI hs (by decide), s_lowest ⟨gx_in _ (gx_24 s i) (by omega) (by decide), ?_⟩⟩
  rw [gx_cl _ (gx_24 s i) (by omega), nI_clamp (by omega)]
  exact hQ
theorem gS_put {items items' : Nat → Int64} {lanes sizes lanes' sizes' : Nat → Int32} (hS : gSheets items lanes sizes items' lanes' sizes') {s i : Nat} (v : Int64) : gSheets (vp_updL items (24 * s + i) v) lanes sizes (vp_updL items' (24 * s + i) v) lanes' sizes' := by
  intro t ht
  obtain ⟨h1, h2, h3, z, h4, h5, h6⟩ := hS t ht
  refine ⟨h1, h2, h3, z, h4, h5, fun hl j hj => ?_⟩
  by_cases e : 24 * t + j = 24 * s + i
  · rw [e, pk_uLs, pk_uLs]
  · rw [pk_uLn e, pk_uLn e]
    exact h6 hl j hj
theorem o_sheet {items items' : Nat → Int64} {lanes sizes lanes' sizes' : Nat → Int32} {a1 a2 a3 : Int32} {X : (Nat → Int64) → (Nat → Int32) → (Nat → Int32) → (Nat → Int64) → (Nat → Int32) → (Nat → Int32) → Prop} (hS : gSheets items lanes sizes items' lanes' sizes') (hX : ∀ y2 y3 y4 y6 y7 y8, gSheets y2 y3 y4 y6 y7 y8 → X y2 y3 y4 y6 y7 y8) : p_X10_sheet items lanes sizes a1 a2 a3 (fun r1 y2 y3 y4 => p_X11_sheet items' lanes' sizes' a1 a2 a3 (fun r5 y6 y7 y8 => r1 = r5 ∧ X y2 y3 y4 y6 y7 y8)) := by
  unfold p_X10_sheet
  by_cases h : (∃ s, s < 4 ∧ a1 = nI s) ∧ ∃ l, l < 4 ∧ a2 = nI l
  · obtain ⟨⟨s, hs, rfl⟩, l, hl, rfl⟩ := h
    refine s_noSL_in hs hl ⟨fun _ => ⟨fun g => ⟨fun g0 => ?_, fun g0 => ?_⟩, fun g => ?_⟩, g00⟩
    · obtain ⟨n, -, hn, rfl⟩ : ∃ n, 0 ≤ n ∧ n ≤ 24 ∧ a3 = nI n := by
        apply (gm_rng (by decide) (by decide)).mpr
        rw [Int32.le_iff_toInt_le] at g g0
        exact ⟨g0, g⟩
      unfold p_X7_lay
      refine ⟨vp_in_nI hs (by decide), vp_in_nI hs (by decide), ?_⟩
      rw [nI_clamp (by omega)]
      refine gi2_inv n (fun i a b => a = nI i ∧ (∀ j, j < i → b (24 * s + j) = 0) ∧ ∀ q, (q < 24 * s ∨ 24 * s + 24 ≤ q) → b q = items q) ?_ ?_ ⟨rfl, fun j hj => absurd hj (Nat.not_lt_zero j), fun _ _ => rfl⟩
      · rintro i hi X a b ⟨rfl, b1, b2⟩ hX
        unfold p_X7_lay_17
        refine ⟨fun z => ?_, fun _ => s_X7_put hs (by omega) (hX _ _ ⟨by rw [gl_1, nI_add], fun j hj => ?_, fun q hq => ?_⟩)⟩
        · rw [nI_leI (by omega) (by omega)] at z; omega
        · rw [gcut_0]
          by_cases e : j = i
          · subst e; rw [pk_uLs]
          · rw [pk_uLn (by omega)]; exact b1 j (by omega)
        · rw [pk_uLn (by omega)]; exact b2 q hq
      · rintro X a b ⟨rfl, b1, b2⟩
        unfold p_X7_lay_17
        refine ⟨fun _ => ?_, fun z => absurd (by rw [nI_leI (by omega) (by omega)]; omega) z⟩
        unfold p_X11_sheet
        refine s_sh_in hs ⟨g10, fun _ => s_iR_in hl (by decide) (by decide) ⟨g10, fun _ => ⟨fun _ => ⟨fun _ => ⟨vp_in_nI hs (by decide), vp_in_nI hs (by decide), ?_⟩, fun z => absurd g0 z⟩, fun z => absurd g z⟩⟩⟩
        rw [nI_clamp (by omega)]
        refine gi2_inv 24 (fun i a c => a = nI i ∧ (∀ j, j < i → c (24 * s + j) = 0) ∧ ∀ q, (q < 24 * s ∨ 24 * s + 24 ≤ q) → c q = items' q) ?_ ?_ ⟨rfl, fun j hj => absurd hj (Nat.not_lt_zero j), fun _ _ => rfl⟩
        · rintro i hi X a c ⟨rfl, c1, c2⟩ hX
          unfold p_X11_sheet_52
          refine ⟨fun z => ?_, fun _ => ⟨gx_in _ (gx_24m s i) (by omega) (by decide), hX _ _ ⟨by rw [gl_1, nI_add], fun j hj => ?_, fun q hq => ?_⟩⟩⟩
          · rw [show (24 : Int32) = nI 24 from rfl, nI_leI (by decide) (by omega)] at z; omega
          · rw [gx_cl _ (gx_24m s i) (by omega)]
            by_cases e : j = i
            · subst e; rw [pk_uLs]
            · rw [pk_uLn (by omega)]; exact c1 j (by omega)
          · rw [gx_cl _ (gx_24m s i) (by omega), pk_uLn (by omega)]; exact c2 q hq
        · rintro X a c ⟨rfl, c1, c2⟩
          unfold p_X11_sheet_52
          refine ⟨fun _ => ⟨rfl, hX _ _ _ _ _ _ ?_⟩, fun z => absurd (by rw [show (24 : Int32) = nI 24 from rfl, nI_leI (by decide) (by decide)]; omega) z⟩
          intro t ht
          obtain ⟨h1, h2, h3, z, h4, h5, h6⟩ := hS t ht
          by_cases e : t = s
          · subst e
            rw [pk_us, pk_us, pk_us, pk_us]
            exact ⟨rfl, rfl, Or.inr ⟨l, hl, rfl⟩, n, hn, rfl, fun _ j hj => by rw [b1 j hj, c1 j (by omega)]⟩
          · rw [pk_un e, pk_un e, pk_un e, pk_un e]
            refine ⟨h1, h2, h3, z, h4, h5, fun hh j hj => ?_⟩
            rw [b2 _ (by omega), c2 _ (by omega)]
            exact h6 hh j hj
    · unfold p_X11_sheet
      exact s_sh_in hs ⟨g10, fun _ => s_iR_in hl (by decide) (by decide) ⟨g10, fun _ => ⟨fun _ => ⟨fun z => absurd z g0, fun _ => ⟨rfl, hX _ _ _ _ _ _ hS⟩⟩, fun z => absurd g z⟩⟩⟩
    · unfold p_X11_sheet
      exact s_sh_in hs ⟨g10, fun _ => s_iR_in hl (by decide) (by decide) ⟨g10, fun _ => ⟨fun z => absurd z g, fun _ => ⟨rfl, hX _ _ _ _ _ _ hS⟩⟩⟩⟩
  · refine s_noSL_out h ⟨g10, fun _ => ?_⟩
    unfold p_X11_sheet
    by_cases h1 : ∃ s, s < 4 ∧ a1 = nI s
    · have h2 : ¬ ∃ l, l < 4 ∧ a2 = nI l := fun z => h ⟨h1, z⟩
      obtain ⟨s, hs, rfl⟩ := h1
      exact s_sh_in hs ⟨g10, fun _ => s_iR_out h2 (by decide) (by decide) ⟨fun _ => ⟨rfl, hX _ _ _ _ _ _ hS⟩, g00⟩⟩
    · exact s_sh_out h1 ⟨fun _ => ⟨rfl, hX _ _ _ _ _ _ hS⟩, g00⟩
theorem o_clear {items items' : Nat → Int64} {lanes sizes lanes' sizes' : Nat → Int32} {a1 : Int32} {X : (Nat → Int32) → (Nat → Int32) → Prop} (hS : gSheets items lanes sizes items' lanes' sizes') (hX : ∀ y2 y4, gSheets items y2 sizes items' y4 sizes' → X y2 y4) : p_X10_clear lanes sizes a1 (fun r1 y2 => p_X11_clear lanes' sizes' a1 (fun r3 y4 => r1 = r3 ∧ X y2 y4)) := by
  unfold p_X10_clear
  by_cases h : ∃ s, s < 4 ∧ a1 = nI s
  · obtain ⟨s, hs, rfl⟩ := h
    obtain ⟨h1, h2, h3, z, h4, h5, h6⟩ := hS s hs
    refine s_oR_in hs (by decide) rfl ⟨fun _ => ?_, g00⟩
    unfold p_X7_holdsNothing p_X11_clear
    refine ⟨vp_in_nI hs (by decide), ?_⟩
    rw [nI_clamp (by omega)]
    refine ⟨fun e => ⟨g10, fun _ => s_sh_in hs ⟨g10, fun _ => ⟨vp_in_nI hs (by decide), ?_⟩⟩⟩, fun e => ⟨fun _ => ?_, g00⟩⟩
    · rw [← h1]
      exact ⟨fun g => absurd e ((gm_lane h3).mp g), fun _ => ⟨rfl, hX _ _ hS⟩⟩
    · unfold p_X7_takeAway
      refine ⟨vp_in_nI hs (by decide), vp_in_nI hs (by decide), s_sh_in hs ⟨g10, fun _ => ⟨vp_in_nI hs (by decide), ?_⟩⟩⟩
      rw [nI_clamp (by omega), ← h1]
      refine ⟨fun _ => ⟨vp_in_nI hs (by decide), vp_in_nI hs (by decide), h2, hX _ _ ?_⟩, fun g => absurd ((gm_lane h3).mpr e) g⟩
      intro t ht
      obtain ⟨k1, k2, k3, y, k4, k5, k6⟩ := hS t ht
      by_cases e : t = s
      · rw [e, pk_us, pk_us]
        rw [e] at k2 k5
        exact ⟨rfl, k2, Or.inl rfl, y, k4, k5, fun g => absurd rfl g⟩
      · rw [pk_un e, pk_un e]
        exact ⟨k1, k2, k3, y, k4, k5, k6⟩
  · refine s_oR_out h (by decide) (by decide) rfl ⟨g10, fun _ => ?_⟩
    unfold p_X11_clear
    exact s_sh_out h ⟨fun _ => ⟨rfl, hX _ _ hS⟩, g00⟩
/-- what refuses -/
def gref (ls lane : Int32) (z : Nat) (i : Int32) (n : Nat) : Int32 := if ls = -1 then -1000011 else if ls = lane then (if 0 ≤ i.toInt ∧ i.toInt ≤ (z : Int) - n then 0 else -1000013) else -1000012
theorem s_X7_refusal {lanes sizes : Nat → Int32} {s z n : Nat} {lane i : Int32} {Q : Int32 → Prop} (hs : s < 4) (hz : z ≤ 24) (hsz : sizes s = nI z) (hn : n ≤ 24) (hQ : Q (gref (lanes s) lane z i n)) : p_X7_refusal lanes sizes (nI s) lane i (nI n) Q := by
  unfold p_X7_refusal p_X7_holdsNothing p_X7_isBeyond
  unfold gref at hQ
  refine ⟨vp_in_nI hs (by decide), ?_⟩
  rw [nI_clamp (by omega), hsz]
  refine ⟨fun e => ⟨g10, fun _ => by rw [if_pos e] at hQ; exact hQ⟩, fun e => ⟨fun _ => ⟨vp_in_nI hs (by decide), ?_⟩, g00⟩⟩
  rw [if_neg e] at hQ
  refine ⟨fun e2 => ?_, fun e2 => by rw [if_neg e2] at hQ; exact hQ⟩
  rw [if_pos e2] at hQ
  have hz0 : (0 : Int32).toInt = 0 := rfl
  refine ⟨fun g => ⟨g10, fun _ => ?_⟩, fun g => ⟨fun g2 => ?_, fun _ => ⟨vp_in_nI hs (by decide), fun g3 => ⟨fun _ => ?_, g00⟩, fun g3 => ⟨g10, fun _ => ?_⟩⟩⟩⟩
  · rw [Int32.lt_iff_toInt_lt] at g
    rw [if_neg (by omega)] at hQ
    exact hQ
  · exact absurd g2 (nI_pos (by omega))
  · rw [Int32.lt_iff_toInt_lt] at g
    rw [Int32.le_iff_toInt_le, pk_sub_toInt (by omega) (by omega)] at g3
    rw [if_pos (by omega)] at hQ
    exact hQ
  · rw [Int32.le_iff_toInt_le, pk_sub_toInt (by omega) (by omega)] at g3
    rw [if_neg (by omega)] at hQ
    exact hQ
theorem s_X11_why {lanes sizes : Nat → Int32} {s z n : Nat} {lane i : Int32} {Q : Int32 → Prop} (hs : s < 4) (hz : z ≤ 24) (hsz : sizes s = nI z) (hl : lanes s = -1 ∨ ∃ l, l < 4 ∧ lanes s = nI l) (hn : n ≤ 24) (hQ : Q (gref (lanes s) lane z i n)) : p_X11_why lanes sizes (nI s) lane i (nI n) Q := by
  unfold p_X11_why
  unfold gref at hQ
  refine ⟨vp_in_nI hs (by decide), ?_⟩
  rw [nI_clamp (by omega), hsz]
  refine ⟨fun e => ⟨vp_in_nI hs (by decide), ?_⟩, fun e => ?_⟩
  · rw [if_neg ((gm_lane hl).mp e)] at hQ
    refine ⟨fun e2 => ?_, fun e2 => by rw [if_neg e2] at hQ; exact hQ⟩
    rw [if_pos e2] at hQ
    have hz0 : (0 : Int32).toInt = 0 := rfl
    refine ⟨fun g => ?_, fun g => ⟨vp_in_nI hs (by decide), ?_⟩⟩
    · rw [Int32.lt_iff_toInt_lt] at g
      rw [if_neg (by omega)] at hQ
      exact hQ
    · rw [Int32.lt_iff_toInt_lt] at g
      have hi := Int32.toInt_lt i
      have hd : (nI z - i).toInt = (z : Int) - i.toInt := by
        rw [Int32.toInt_sub, nI_toInt (by omega), gm_bm (by omega) (by omega)]
      rw [Int32.le_iff_toInt_le, hd, nI_toInt (by omega)]
      refine ⟨fun g3 => ?_, fun g3 => ?_⟩
      · rw [if_pos (by omega)] at hQ; exact hQ
      · rw [if_neg (by omega)] at hQ; exact hQ
  · by_cases e1 : lanes s = -1
    · rw [if_pos e1] at hQ; exact hQ
    · exact absurd ((gm_lane hl).mpr e1) e
theorem gref_cases {ls lane i : Int32} {z n : Nat} : (gref ls lane z i n = 0 ∧ ¬ ls = -1 ∧ ls = lane ∧ 0 ≤ i.toInt ∧ i.toInt ≤ (z : Int) - n) ∨ (¬ gref ls lane z i n = 0 ∧ ¬ (0 ≤ gref ls lane z i n)) := by
  unfold gref
  split
  · right; decide
  · split
    · split
      · rename_i h1 h2 h3
        exact Or.inl ⟨rfl, h1, h2, h3.1, h3.2⟩
      · right; decide
    · right; decide
theorem o_item {items items' : Nat → Int64} {lanes sizes lanes' sizes' : Nat → Int32} {a1 a2 a3 : Int32} {v : Int64} {X : (Nat → Int64) → (Nat → Int64) → Prop} (hS : gSheets items lanes sizes items' lanes' sizes') (hX : ∀ y2 y4, gSheets y2 lanes sizes y4 lanes' sizes' → X y2 y4) : p_X10_item items lanes sizes a1 a2 a3 v (fun r1 y2 => p_X11_item items' lanes' sizes' a1 a2 a3 v (fun r3 y4 => r1 = r3 ∧ X y2 y4)) := by
  unfold p_X10_item
  by_cases h : (∃ s, s < 4 ∧ a1 = nI s) ∧ ∃ l, l < 4 ∧ a2 = nI l
  · obtain ⟨⟨s, hs, rfl⟩, l, hl, rfl⟩ := h
    obtain ⟨h1, h2, h3, z, h4, h5, h6⟩ := hS s hs
    have h5' : sizes' s = nI z := by rw [← h2]; exact h5
    have h3' : lanes' s = -1 ∨ ∃ l, l < 4 ∧ lanes' s = nI l := by rw [← h1]; exact h3
    refine s_noSL_in hs hl ⟨fun _ => s_X7_refusal (n := 1) hs h4 h5 (by decide) ?_, g00⟩
    rcases gref_cases (ls := lanes s) (lane := nI l) (z := z) (i := a3) (n := 1) with ⟨e, k1, k2, k3, k4⟩ | ⟨e, k1⟩
    · refine ⟨fun _ => ?_, fun g => absurd e g⟩
      obtain ⟨i, hi, rfl⟩ : ∃ i, i < 24 ∧ a3 = nI i := (gm_ix (by decide)).mpr (by omega)
      refine s_X7_put hs hi ?_
      unfold p_X11_item
      refine s_sh_in hs ⟨g10, fun _ => s_iR_in hl (by decide) (by decide) ⟨g10, fun _ => s_X11_why (n := 1) hs h4 h5' h3' (by decide) ⟨fun _ => s_cut ⟨gx_in _ (gx_24m s i) (by omega) (by decide), ?_⟩, fun g => ?_⟩⟩⟩
      · rw [gx_cl _ (gx_24m s i) (by omega), k2]
        exact ⟨rfl, hX _ _ (gS_put hS _)⟩
      · rw [← h1, e] at g; exact absurd (by decide) g
    · refine ⟨fun g => absurd g e, fun _ => ?_⟩
      unfold p_X11_item
      refine s_sh_in hs ⟨g10, fun _ => s_iR_in hl (by decide) (by decide) ⟨g10, fun _ => s_X11_why (n := 1) hs h4 h5' h3' (by decide) ⟨fun g => ?_, fun _ => ?_⟩⟩⟩
      · rw [← h1] at g; exact absurd g k1
      · rw [← h1]; exact ⟨rfl, hX _ _ hS⟩
  · refine s_noSL_out h ⟨g10, fun _ => ?_⟩
    unfold p_X11_item
    by_cases h1 : ∃ s, s < 4 ∧ a1 = nI s
    · have h2 : ¬ ∃ l, l < 4 ∧ a2 = nI l := fun z => h ⟨h1, z⟩
      obtain ⟨s, hs, rfl⟩ := h1
      exact s_sh_in hs ⟨g10, fun _ => s_iR_out h2 (by decide) (by decide) ⟨fun _ => ⟨rfl, hX _ _ hS⟩, g00⟩⟩
    · exact s_sh_out h1 ⟨fun _ => ⟨rfl, hX _ _ hS⟩, g00⟩
