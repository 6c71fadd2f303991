/-! copy, seen -/
theorem s_bey {sizes : Nat → Int32} {s z : Nat} {i n : Int32} {Q : Int32 → Prop} (hs : s < 4) (hz : z ≤ 24) (hsz : sizes s = nI z) (h1 : 0 ≤ i.toInt ∧ 0 ≤ n.toInt ∧ i.toInt + n.toInt ≤ z → Q 0) (h2 : ¬ (0 ≤ i.toInt ∧ 0 ≤ n.toInt ∧ i.toInt + n.toInt ≤ z) → Q 1) : p_X7_isBeyond sizes (nI s) i n Q := by
  unfold p_X7_isBeyond
  have hz0 : (0 : Int32).toInt = 0 := rfl
  refine ⟨fun g => h2 ?_, fun g => ⟨fun g2 => h2 ?_, fun g2 => ⟨vp_in_nI hs (by decide), ?_⟩⟩⟩
  · rw [Int32.lt_iff_toInt_lt] at g; omega
  · rw [Int32.lt_iff_toInt_lt] at g2; omega
  · rw [Int32.lt_iff_toInt_lt] at g g2
    rw [nI_clamp (by omega), hsz]
    have hn := Int32.toInt_lt n
    have hd : (nI z - n).toInt = (z : Int) - n.toInt := by
      rw [Int32.toInt_sub, nI_toInt (by omega), gm_bm (by omega) (by omega)]
    rw [Int32.le_iff_toInt_le, hd]
    exact ⟨fun g3 => h1 (by omega), fun g3 => h2 (by omega)⟩
theorem gm_l64 (a b : Int32) : (a.toInt64 + b.toInt64).toInt = a.toInt + b.toInt := by
  have h1 := Int32.le_toInt a
  have h2 := Int32.toInt_lt a
  have h3 := Int32.le_toInt b
  have h4 := Int32.toInt_lt b
  rw [Int64.toInt_add, gm_l, gm_l]
  simp only [Int.bmod]
  omega
theorem gm_cmp_le (x y : Int64) : (lg_cmp x y ≤ 0) ↔ x.toInt ≤ y.toInt := by
  have h := gm_cmp_gt x y
  constructor
  · intro g
    apply Int.not_lt.mp
    intro z
    exact Int32.not_lt.mpr g (h.mpr z)
  · intro g
    apply Int32.not_lt.mp
    intro z
    have := h.mp z
    omega
def gCopy (items : Nat → Int64) (f i t j n : Nat) : Nat → Int64 := fun q => if 24 * t + j ≤ q ∧ q < 24 * t + j + n then items (24 * f + i + (q - (24 * t + j))) else items q
theorem s_X11_copy_111 {items moved : Nat → Int64} {f i t j n : Nat} {Q : Int32 → (Nat → Int64) → (Nat → Int64) → Prop} (hf : f < 4) (ht : t < 4) (hi : i + n ≤ 24) (hj : j + n ≤ 24) (hQ : ∀ m, Q (nI n) (gCopy items f i t j n) m) : ∃ k, gi2 (p_X11_copy_111 items (nI f) (nI i) (nI t) (nI j) (nI n) Q) k (0 : Int32) moved := by
  have e1 : ∀ k, (24 : Int32) * nI f + nI i + nI k = nI (24 * f + i + k) := fun k => by rw [gx_24m, nI_add]
  have e2 : ∀ k, (24 : Int32) * nI t + nI j + nI k = nI (24 * t + j + k) := fun k => by rw [gx_24m, nI_add]
  refine gi2_inv n (fun k a b => a = nI k ∧ ∀ q, q < k → b q = items (24 * f + i + q)) ?_ ?_ ⟨rfl, fun q hq => absurd hq (Nat.not_lt_zero q)⟩
  · rintro k hk X a b ⟨rfl, hb⟩ hX
    unfold p_X11_copy_111
    refine ⟨fun z => ?_, fun _ => ⟨gx_in _ (e1 k) (by omega) (by decide), vp_in_nI (by omega) (by decide), hX _ _ ⟨by rw [gl_1, nI_add], fun q hq => ?_⟩⟩⟩
    · rw [nI_leI (by omega) (by omega)] at z; omega
    · rw [gx_cl _ (e1 k) (by omega), nI_clamp (by omega)]
      by_cases e : q = k
      · subst e; rw [pk_uLs]
      · rw [pk_uLn e]; exact hb q (by omega)
  · rintro X a b ⟨rfl, hb⟩
    unfold p_X11_copy_111
    refine ⟨fun _ => ?_, fun z => absurd (by rw [nI_leI (by omega) (by omega)]; omega) z⟩
    refine gi2_inv n (fun k a c => a = nI k ∧ c = gCopy items f i t j k) ?_ ?_ ⟨rfl, ?_⟩
    · rintro k hk X a c ⟨rfl, rfl⟩ hX
      unfold p_X11_copy_148
      refine ⟨fun z => ?_, fun _ => ⟨vp_in_nI (by omega) (by decide), gx_in _ (e2 k) (by omega) (by decide), hX _ _ ⟨by rw [gl_1, nI_add], ?_⟩⟩⟩
      · rw [nI_leI (by omega) (by omega)] at z; omega
      · rw [gx_cl _ (e2 k) (by omega), nI_clamp (by omega), hb k hk]
        funext q
        by_cases e : q = 24 * t + j + k
        · subst e
          rw [pk_uLs]
          unfold gCopy
          rw [if_pos (by omega)]
          congr 1
          omega
        · rw [pk_uLn e]
          unfold gCopy
          by_cases e2 : 24 * t + j ≤ q ∧ q < 24 * t + j + k
          · rw [if_pos e2, if_pos (by omega)]
          · rw [if_neg e2, if_neg (by omega)]
    · rintro X a c ⟨rfl, rfl⟩
      unfold p_X11_copy_148
      exact ⟨fun _ => hQ _, fun z => absurd (by rw [nI_leI (by omega) (by omega)]; omega) z⟩
    · funext q
      unfold gCopy
      rw [if_neg (by omega)]
theorem gS_copy {items items' : Nat → Int64} {lanes sizes lanes' sizes' : Nat → Int32} (hS : gSheets items lanes sizes items' lanes' sizes') {f i t j n zf : Nat} (hf : f < 4) (hlf : ¬ lanes f = -1) (hzf : sizes f = nI zf) (hz24 : zf ≤ 24) (hi : i + n ≤ zf) : gSheets (gCopy items f i t j n) lanes sizes (gCopy items' f i t j n) lanes' sizes' := by
  intro s hs
  obtain ⟨h1, h2, h3, z, h4, h5, h6⟩ := hS s hs
  refine ⟨h1, h2, h3, z, h4, h5, fun hl q hq => ?_⟩
  unfold gCopy
  by_cases e : 24 * t + j ≤ 24 * s + q ∧ 24 * s + q < 24 * t + j + n
  · rw [if_pos e, if_pos e]
    obtain ⟨-, -, -, z', g4, g5, g6⟩ := hS f hf
    have : z' = zf := by
      rw [g5] at hzf
      exact (nI_eq (by omega) (by omega)).mp hzf
    subst this
    rw [Nat.add_assoc]
    exact g6 hlf _ (by omega)
  · rw [if_neg e, if_neg e]
    exact h6 hl q hq
theorem s_X11_copy {items moved : Nat → Int64} {lanes sizes : Nat → Int32} {f t zf zt : Nat} {i j n : Int32} {Q : Int32 → (Nat → Int64) → (Nat → Int64) → Prop} (hf : f < 4) (ht : t < 4) (hzf : zf ≤ 24) (hzt : zt ≤ 24) (hsf : sizes f = nI zf) (hst : sizes t = nI zt) (nf : ¬ lanes f < 0) (nt : 0 ≤ lanes t)
    (h1 : lanes f = lanes t → (0 ≤ i.toInt ∧ 0 ≤ n.toInt ∧ i.toInt + n.toInt ≤ zf) ∧ (0 ≤ j.toInt ∧ 0 ≤ n.toInt ∧ j.toInt + n.toInt ≤ zt) → ∃ k, gi2 (p_X11_copy_111 items (nI f) i (nI t) j n Q) k (0 : Int32) moved)
    (h2 : lanes f = lanes t → ¬ ((0 ≤ i.toInt ∧ 0 ≤ n.toInt ∧ i.toInt + n.toInt ≤ zf) ∧ (0 ≤ j.toInt ∧ 0 ≤ n.toInt ∧ j.toInt + n.toInt ≤ zt)) → Q (-1000013) items moved)
    (h3 : ¬ lanes f = lanes t → Q (-1000012) items moved) : p_X11_copy items lanes moved sizes (nI f) i (nI t) j n Q := by
  unfold p_X11_copy
  have hz0 : (0 : Int32).toInt = 0 := rfl
  refine s_sh_in hf ⟨g10, fun _ => s_sh_in ht ⟨g10, fun _ => ⟨vp_in_nI hf (by decide), ?_⟩⟩⟩
  rw [nI_clamp (by omega), nI_clamp (show t < 2 ^ 31 by omega), hsf, hst]
  have cf : (nI zf).toInt64.toInt = zf := by rw [gm_l, nI_toInt (by omega)]
  have ct : (nI zt).toInt64.toInt = zt := by rw [gm_l, nI_toInt (by omega)]
  refine ⟨fun g => absurd g nf, fun _ => ⟨vp_in_nI ht (by decide), fun _ => ⟨vp_in_nI hf (by decide), vp_in_nI ht (by decide), fun e => ⟨fun g => h2 e ?_, fun g => ⟨fun g2 => h2 e ?_, fun g2 => ⟨fun g3 => h2 e ?_, fun g3 => ⟨vp_in_nI hf (by decide), fun g4 => h2 e ?_, fun g4 => ⟨vp_in_nI ht (by decide), fun g5 => h1 e ?_, fun g5 => h2 e ?_⟩⟩⟩⟩⟩, fun e => h3 e⟩, fun g => absurd nt g⟩⟩
  · rw [Int32.lt_iff_toInt_lt] at g; omega
  · rw [Int32.lt_iff_toInt_lt] at g2; omega
  · rw [Int32.lt_iff_toInt_lt] at g3; omega
  · rw [gm_cmp_gt, gm_l64, cf] at g4; omega
  · rw [Int32.lt_iff_toInt_lt] at g g2 g3
    rw [gm_cmp_gt, gm_l64, cf] at g4
    rw [gm_cmp_le, gm_l64, ct] at g5
    omega
  · rw [gm_cmp_le, gm_l64, ct] at g5; omega
theorem o_copy {items items' moved : Nat → Int64} {lanes sizes lanes' sizes' : Nat → Int32} {a1 a2 a3 a4 a5 : Int32} {X : (Nat → Int64) → (Nat → Int64) → (Nat → Int64) → Prop} (hS : gSheets items lanes sizes items' lanes' sizes') (hX : ∀ y2 y4 y5, gSheets y2 lanes sizes y4 lanes' sizes' → X y2 y4 y5) : p_X10_copy items lanes sizes a1 a2 a3 a4 a5 (fun r1 y2 => p_X11_copy items' lanes' moved sizes' a1 a2 a3 a4 a5 (fun r3 y4 y5 => r1 = r3 ∧ X y2 y4 y5)) := by
  unfold p_X10_copy
  by_cases hf : ∃ s, s < 4 ∧ a1 = nI s
  · obtain ⟨f, hf, rfl⟩ := hf
    refine s_oR_in hf (by decide) rfl ⟨fun _ => ?_, g00⟩
    by_cases ht : ∃ s, s < 4 ∧ a3 = nI s
    · obtain ⟨t, ht, rfl⟩ := ht
      refine s_oR_in ht (by decide) rfl ⟨fun _ => ?_, g00⟩
      obtain ⟨f1, f2, f3, zf, f4, f5, f6⟩ := hS f hf
      obtain ⟨t1, t2, t3, zt, t4, t5, t6⟩ := hS t ht
      have lm : ∀ s, s < 4 → (lanes s = -1 ∨ ∃ l, l < 4 ∧ lanes s = nI l) → (lanes s < 0 ↔ lanes s = -1) := by
        intro s _ h
        have := gm_lane h
        constructor
        · intro z
          by_cases e : lanes s = -1
          · exact e
          · exact absurd z (Int32.not_lt.mpr (this.mpr e))
        · intro e; rw [e]; decide
      unfold p_X7_holdsNothing
      refine ⟨vp_in_nI hf (by decide), ?_⟩
      rw [nI_clamp (by omega), nI_clamp (show t < 2 ^ 31 by omega)]
      have nul : lanes f = -1 ∨ lanes t = -1 → p_X11_copy items' lanes' moved sizes' (nI f) a2 (nI t) a4 a5 (fun r3 y4 y5 => (-1000011 : Int32) = r3 ∧ X items y4 y5) := by
        intro h
        unfold p_X11_copy
        refine s_sh_in hf ⟨g10, fun _ => s_sh_in ht ⟨g10, fun _ => ⟨vp_in_nI hf (by decide), ?_⟩⟩⟩
        rw [nI_clamp (by omega), nI_clamp (show t < 2 ^ 31 by omega), ← f1, ← t1]
        refine ⟨fun _ => ⟨rfl, hX _ _ _ hS⟩, fun g => ⟨vp_in_nI ht (by decide), fun g2 => ?_, fun _ => ⟨rfl, hX _ _ _ hS⟩⟩⟩
        rcases h with h | h
        · exact absurd ((lm f hf f3).mpr h) g
        · exact absurd h ((gm_lane t3).mp g2)
      refine ⟨fun e => ⟨g10, fun _ => nul (Or.inl e)⟩, fun ef => ⟨fun _ => ⟨vp_in_nI ht (by decide), fun e => ⟨g10, fun _ => nul (Or.inr e)⟩, fun et => ⟨fun _ => ⟨vp_in_nI hf (by decide), vp_in_nI ht (by decide), ?_⟩, g00⟩⟩, g00⟩⟩
      have f5' : sizes' f = nI zf := by rw [← f2]; exact f5
      have t5' : sizes' t = nI zt := by rw [← t2]; exact t5
      have nf : ¬ lanes' f < 0 := by rw [← f1]; exact fun z => ef ((lm f hf f3).mp z)
      have nt : 0 ≤ lanes' t := by rw [← t1]; exact (gm_lane t3).mpr et
      refine ⟨fun e => ?_, fun e => s_X11_copy hf ht f4 t4 f5' t5' nf nt (fun e2 => absurd (by rw [f1, t1]; exact e2) e) (fun e2 => absurd (by rw [f1, t1]; exact e2) e) (fun _ => ⟨rfl, hX _ _ _ hS⟩)⟩
      have e' : ¬ ¬ lanes' f = lanes' t := fun z => z (by rw [← f1, ← t1]; exact e)
      have no : ¬ ((0 ≤ a2.toInt ∧ 0 ≤ a5.toInt ∧ a2.toInt + a5.toInt ≤ zf) ∧ (0 ≤ a4.toInt ∧ 0 ≤ a5.toInt ∧ a4.toInt + a5.toInt ≤ zt)) → p_X11_copy items' lanes' moved sizes' (nI f) a2 (nI t) a4 a5 (fun r3 y4 y5 => (-1000013 : Int32) = r3 ∧ X items y4 y5) := fun h => s_X11_copy hf ht f4 t4 f5' t5' nf nt (fun _ z => absurd z h) (fun _ _ => ⟨rfl, hX _ _ _ hS⟩) (fun z => absurd z e')
      refine s_bey hf f4 f5 (fun k1 => ⟨fun _ => s_bey ht t4 t5 (fun k2 => ⟨fun _ => ?_, g00⟩) (fun k2 => ⟨g10, fun _ => ?_⟩), g00⟩) (fun k1 => ⟨g10, fun _ => ?_⟩)
      · obtain ⟨i, hi, rfl⟩ : ∃ i, i < 25 ∧ a2 = nI i := (gm_ix (by decide)).mpr (by omega)
        obtain ⟨n, hn, rfl⟩ : ∃ i, i < 25 ∧ a5 = nI i := (gm_ix (by decide)).mpr (by omega)
        obtain ⟨j, hj, rfl⟩ : ∃ i, i < 25 ∧ a4 = nI i := (gm_ix (by decide)).mpr (by omega)
        have ti : (nI i).toInt = i := nI_toInt (by omega)
        have tn : (nI n).toInt = n := nI_toInt (by omega)
        have tj : (nI j).toInt = j := nI_toInt (by omega)
        rw [ti, tn] at k1
        rw [tj, tn] at k2
        unfold p_X7_move
        rw [gx_24, gx_24, nI_clamp (by omega), nI_clamp (by omega), nI_clamp (by omega)]
        refine ⟨nI_pos (by omega), nI_pos (by omega), nI_pos (by omega), by omega, by omega, ?_⟩
        have ec : va_cpy items items (24 * f + i) (24 * t + j) n = gCopy items f i t j n := rfl
        rw [ec]
        refine s_X11_copy hf ht f4 t4 f5' t5' nf nt (fun _ _ => s_X11_copy_111 hf ht (by omega) (by omega) (fun m => ⟨rfl, hX _ _ _ (gS_copy hS hf ef f5 f4 (by omega))⟩)) (fun _ z => absurd ⟨?_, ?_⟩ z) (fun z => absurd z e')
        · rw [ti, tn]; exact k1
        · rw [tj, tn]; exact k2
      · unfold p_X10_copy_100
        exact no (fun z => k2 z.2)
      · unfold p_X10_copy_100
        exact no (fun z => k1 z.1)
    · refine s_oR_out ht (by decide) (by decide) rfl ⟨g10, fun _ => ?_⟩
      unfold p_X11_copy
      exact s_sh_in hf ⟨g10, fun _ => s_sh_out ht ⟨fun _ => ⟨rfl, hX _ _ _ hS⟩, g00⟩⟩
  · refine s_oR_out hf (by decide) (by decide) rfl ⟨g10, fun _ => ?_⟩
    unfold p_X11_copy
    exact s_sh_out hf ⟨fun _ => ⟨rfl, hX _ _ _ hS⟩, g00⟩
