/-! numbers -/
theorem gl_0 : (0 : Int32) = nI 0 := rfl
theorem gl_1 : (1 : Int32) = nI 1 := rfl
theorem gl_2 : (2 : Int32) = nI 2 := rfl
theorem gl_3 : (3 : Int32) = nI 3 := rfl
theorem gl_4 : (4 : Int32) = nI 4 := rfl
theorem gl_5 : (5 : Int32) = nI 5 := rfl
theorem gl_6 : (6 : Int32) = nI 6 := rfl
theorem gl_7 : (7 : Int32) = nI 7 := rfl
theorem gl_8 : (8 : Int32) = nI 8 := rfl
theorem gl_9 : (9 : Int32) = nI 9 := rfl
theorem gcl_0 : (0 : Int32).toNatClampNeg = 0 := by decide
theorem gcl_1 : (1 : Int32).toNatClampNeg = 1 := by decide
/-- 6 k + j, as both classes write it -/
theorem gx_6 (k j : Nat) : nI k * (6 : Int32) + nI j = nI (6 * k + j) := by
  rw [gl_6, pk_mul, nI_add, Nat.mul_comm]
theorem gx_6' (k : Nat) : nI k * (6 : Int32) = nI (6 * k) := by
  rw [gl_6, pk_mul, Nat.mul_comm]
theorem gx_m6 (k : Nat) : (3 : Int32) + ((6 : Int32) * nI k) = nI (3 + 6 * k) := by
  rw [gl_6, gl_3, pk_mul, nI_add]
theorem gx_5 (k j : Nat) : nI k * (5 : Int32) + nI j = nI (5 * k + j) := by
  rw [gl_5, pk_mul, nI_add, Nat.mul_comm]
theorem gx_5m (k j : Nat) : (5 : Int32) * nI k + nI j = nI (5 * k + j) := by
  rw [gl_5, pk_mul, nI_add]
theorem gx_in {x : Int32} (n : Nat) {N : Nat} (hx : x = nI n) (h : n < N) (hN : N < 2 ^ 31) : vp_in x N := by
  rw [hx]; exact vp_in_nI h hN
theorem gx_cl {x : Int32} (n : Nat) (hx : x = nI n) (h : n < 2 ^ 31) : x.toNatClampNeg = n := by
  rw [hx]; exact nI_clamp h
/-- the value of a variable at a point -/
def gv (p i : Nat) : Nat := p / 8 ^ (3 - i) % 8
theorem gv_lt (p i : Nat) : gv p i < 8 := Nat.mod_lt _ (by decide)
theorem gm_val {p i : Nat} (hp : p < 4096) (hi : i < 4) : (nI p >>> (((9 : Int32) - ((3 : Int32) * nI i)) &&& 31)) &&& (7 : Int32) = nI (gv p i) := by
  have h : ∀ (s : Int32) (k : Nat), (s.toBitVec.smod 32).toNat = k → (nI p >>> s) &&& (7 : Int32) = nI (p / 2 ^ k % 2 ^ 3) := by
    intro s k hs
    rw [pk_shrN (by omega) s k hs, pk_andN (Nat.lt_of_le_of_lt (Nat.div_le_self _ _) (by omega)) 3 (by decide)]
  rcases (show i = 0 ∨ i = 1 ∨ i = 2 ∨ i = 3 by omega) with rfl | rfl | rfl | rfl
  · exact h _ 9 (by decide)
  · exact h _ 6 (by decide)
  · exact h _ 3 (by decide)
  · exact h _ 0 (by decide)
theorem s_X3_valueOf {p i : Nat} {x : Int32} {Q : Int32 → Prop} (hp : p < 4096) (hi : i < 4) (hx : x = nI i) (hQ : Q (nI (gv p i))) : p_X3_valueOf (nI p) x Q := by
  subst hx
  unfold p_X3_valueOf
  rw [gm_val hp hi]
  exact hQ
/-! ranges -/
theorem s_out_in {v lo hi : Int32} {Q : Int32 → Prop} (h : lo.toInt ≤ v.toInt ∧ v.toInt ≤ hi.toInt) (hQ : Q 0) : p_X10_outside v lo hi Q := by
  unfold p_X10_outside
  refine ⟨fun g => ?_, fun _ => ⟨fun _ => hQ, fun g => ?_⟩⟩
  · rw [Int32.lt_iff_toInt_lt] at g; omega
  · rw [Int32.le_iff_toInt_le] at g; omega
theorem s_out_out {v lo hi : Int32} {Q : Int32 → Prop} (h : ¬ (lo.toInt ≤ v.toInt ∧ v.toInt ≤ hi.toInt)) (hQ : Q 1) : p_X10_outside v lo hi Q := by
  unfold p_X10_outside
  refine ⟨fun _ => hQ, fun g => ⟨fun g2 => ?_, fun _ => hQ⟩⟩
  rw [Int32.lt_iff_toInt_lt] at g
  rw [Int32.le_iff_toInt_le] at g2
  omega
theorem gm_cmp_lt (x y : Int64) : (lg_cmp x y < 0) ↔ x.toInt < y.toInt := by
  rw [← Int64.lt_iff_toInt_lt]
  unfold lg_cmp
  by_cases h : x > y
  · rw [if_pos h]
    have h2 : ¬ x < y := by
      simp only [gt_iff_lt, Int64.lt_iff_toInt_lt] at *; omega
    simp [h2]
  · by_cases h2 : x = y
    · rw [if_neg h, if_pos h2]
      subst h2
      simp [Int64.lt_iff_toInt_lt]
    · rw [if_neg h, if_neg h2]
      have h3 : x < y := by
        have : x.toInt ≠ y.toInt := fun e => h2 (Int64.toInt_inj.mp e)
        simp only [gt_iff_lt, Int64.lt_iff_toInt_lt] at *; omega
      simp [h3]
theorem gm_cmp_gt (x y : Int64) : (0 < lg_cmp x y) ↔ y.toInt < x.toInt := by
  rw [← Int64.lt_iff_toInt_lt]
  unfold lg_cmp
  by_cases h : x > y
  · rw [if_pos h]
    simp only [gt_iff_lt] at h
    simp [h]
  · have h0 : ¬ y < x := h
    by_cases h2 : x = y
    · rw [if_neg h, if_pos h2]; simp [h0]
    · rw [if_neg h, if_neg h2]; simp [h0]
theorem gm_l (x : Int32) : x.toInt64.toInt = x.toInt := Int32.toInt_toInt64 x
/-- x is one of 0 .. n - 1 -/
theorem gm_ix {x : Int32} {n : Nat} (hn : n < 2 ^ 31) : (∃ k, k < n ∧ x = nI k) ↔ (0 ≤ x.toInt ∧ x.toInt < n) := by
  constructor
  · rintro ⟨k, hk, rfl⟩
    rw [nI_toInt (by omega)]
    omega
  · intro h
    refine ⟨x.toInt.toNat, by omega, ?_⟩
    apply Int32.toInt_inj.mp
    rw [nI_toInt (by omega)]
    omega
theorem s_noC_in {k n : Nat} {Q : Int32 → Prop} (hk : k < n) (hn : n ≤ 8) (hQ : Q 0) : p_X10_isNoConstraint (nI n) (nI k) Q := by
  unfold p_X10_isNoConstraint
  refine s_out_in ?_ ⟨rfl, hQ⟩
  rw [gl_1, pk_sub (by omega), nI_toInt (by omega), nI_toInt (by omega)]
  exact ⟨by rw [gl_0, nI_toInt (by omega)]; omega, by omega⟩
theorem s_noC_out {x : Int32} {n : Nat} {Q : Int32 → Prop} (h : ¬ ∃ k, k < n ∧ x = nI k) (hn : n ≤ 8) (hQ : Q 1) : p_X10_isNoConstraint (nI n) x Q := by
  unfold p_X10_isNoConstraint
  refine s_out_out ?_ ⟨rfl, hQ⟩
  rw [gm_ix (by omega)] at h
  intro ⟨h1, h2⟩
  apply h
  have h0 : (0 : Int32).toInt = 0 := rfl
  rw [h0] at h1
  refine ⟨h1, ?_⟩
  by_cases hn0 : n = 0
  · subst hn0
    have : (nI 0 - (1 : Int32)).toInt = -1 := by decide
    omega
  · rw [gl_1, pk_sub (by omega), nI_toInt (by omega)] at h2
    omega
/-- a number of 0 .. n - 1, asked by the class (as one of 0 .. hi) -/
theorem s_oR_in {k n : Nat} {hi : Int32} {Q : Int32 → Prop} (hk : k < n) (hn : n < 2 ^ 31) (hh : hi = nI (n - 1)) (hQ : Q 0) : p_X10_outside (nI k) (0 : Int32) hi Q := by
  subst hh
  refine s_out_in ?_ hQ
  rw [nI_toInt (by omega), nI_toInt (by omega)]
  exact ⟨by show (0 : Int) ≤ _; omega, by omega⟩
theorem s_oR_out {x : Int32} {n : Nat} {hi : Int32} {Q : Int32 → Prop} (h : ¬ ∃ k, k < n ∧ x = nI k) (h1 : 0 < n) (hn : n < 2 ^ 31) (hh : hi = nI (n - 1)) (hQ : Q 1) : p_X10_outside x (0 : Int32) hi Q := by
  subst hh
  refine s_out_out ?_ hQ
  rw [gm_ix hn] at h
  rw [nI_toInt (by omega)]
  intro ⟨g1, g2⟩
  exact h ⟨g1, by omega⟩
/-! sums, what they fulfil -/
theorem gm_ac5 (a b c d e : Int32) : e + a + b + c + d = a + b + c + d + e := by ac_rfl
def gsum (C : Nat → Int32) (p : Nat) : Int32 := C 0 * nI (gv p 0) + C 1 * nI (gv p 1) + C 2 * nI (gv p 2) + C 3 * nI (gv p 3) + C 4
theorem s_X9_sumAt {cells : Nat → Int32} {k p : Nat} {Q : Int32 → Prop} (hk : k < 8) (hp : p < 4096) (hQ : Q (gsum (fun j => cells (6 * k + j)) p)) : p_X9_sumAt cells (nI k) (nI p) Q := by
  unfold p_X9_sumAt
  have e0 : nI k * (6 : Int32) = nI (6 * k + 0) := gx_6' k
  have e1 : nI k * (6 : Int32) + (1 : Int32) = nI (6 * k + 1) := gx_6 k 1
  have e2 : nI k * (6 : Int32) + (2 : Int32) = nI (6 * k + 2) := gx_6 k 2
  have e3 : nI k * (6 : Int32) + (3 : Int32) = nI (6 * k + 3) := gx_6 k 3
  have e4 : nI k * (6 : Int32) + (4 : Int32) = nI (6 * k + 4) := gx_6 k 4
  refine ⟨gx_in _ e0 (by omega) (by decide), s_X3_valueOf hp (by decide) rfl ⟨gx_in _ e1 (by omega) (by decide), s_X3_valueOf hp (by decide) rfl ⟨gx_in _ e2 (by omega) (by decide), s_X3_valueOf hp (by decide) rfl ⟨gx_in _ e3 (by omega) (by decide), s_X3_valueOf hp (by decide) rfl ⟨gx_in _ e4 (by omega) (by decide), ?_⟩⟩⟩⟩⟩
  rw [gx_cl _ e0 (by omega), gx_cl _ e1 (by omega), gx_cl _ e2 (by omega), gx_cl _ e3 (by omega), gx_cl _ e4 (by omega)]
  exact hQ
def ghold (kind s : Int32) : Bool := if kind = 0 then decide (0 ≤ s) else if kind = 1 then decide (s ≤ 0) else if kind = 2 then decide (s = 0) else if kind = 3 then decide (¬ s = 0) else decide (s &&& (1 : Int32) = 0)
theorem s_X1_holds {kind s : Int32} {Q : Int32 → Prop} (hQ : Q (if ghold kind s then 1 else 0)) : p_X1_holds kind s Q := by
  unfold p_X1_holds
  unfold ghold at hQ
  by_cases h0 : kind = 0
  · rw [if_pos h0] at hQ
    refine ⟨fun _ => ⟨fun g => ?_, fun g => ?_⟩, fun g => absurd h0 g⟩
    · rw [decide_eq_false (Int32.not_le.mpr g)] at hQ; exact hQ
    · rw [decide_eq_true (Int32.not_lt.mp g)] at hQ; exact hQ
  · rw [if_neg h0] at hQ
    refine ⟨fun g => absurd g h0, fun _ => ?_⟩
    by_cases h1 : kind = 1
    · rw [if_pos h1] at hQ
      refine ⟨fun _ => ⟨fun g => ?_, fun g => ?_⟩, fun g => absurd h1 g⟩
      · rw [decide_eq_false (Int32.not_le.mpr g)] at hQ; exact hQ
      · rw [decide_eq_true (Int32.not_lt.mp g)] at hQ; exact hQ
    · rw [if_neg h1] at hQ
      refine ⟨fun g => absurd g h1, fun _ => ?_⟩
      by_cases h2 : kind = 2
      · rw [if_pos h2] at hQ
        refine ⟨fun _ => ⟨fun g => ?_, fun g => ?_⟩, fun g => absurd h2 g⟩
        · rw [decide_eq_true g] at hQ; exact hQ
        · rw [decide_eq_false g] at hQ; exact hQ
      · rw [if_neg h2] at hQ
        refine ⟨fun g => absurd g h2, fun _ => ?_⟩
        by_cases h3 : kind = 3
        · rw [if_pos h3] at hQ
          refine ⟨fun _ => ⟨fun g => ?_, fun g => ?_⟩, fun g => absurd h3 g⟩
          · rw [decide_eq_false (fun z => z g)] at hQ; exact hQ
          · rw [decide_eq_true g] at hQ; exact hQ
        · rw [if_neg h3] at hQ
          refine ⟨fun g => absurd g h3, fun _ => ⟨fun g => ?_, fun g => ?_⟩⟩
          · rw [decide_eq_true g] at hQ; exact hQ
          · rw [decide_eq_false g] at hQ; exact hQ
theorem gm_bm {z : Int} (h1 : -2147483648 ≤ z) (h2 : z < 2147483648) : z.bmod (2 ^ 32) = z := by
  simp only [Int.bmod]
  omega
theorem gm_tdn {t : Int} (k : Int) (h : 0 ≤ t) : t.tdiv k = t / k := Int.tdiv_eq_ediv_of_nonneg h
theorem gm_tdm {t : Int} (k : Int) (h : t < 0) : t.tdiv k = -((-t) / k) := by
  rw [← gm_tdn k (show 0 ≤ -t by omega), Int.neg_tdiv, Int.neg_neg]
theorem gm_nat (s : Int32) : (s.toBitVec.toNat : Int) = s.toInt ∨ (s.toBitVec.toNat : Int) = s.toInt + 4294967296 := by
  have h : s.toInt = (s.toBitVec.toNat : Int).bmod (2 ^ 32) := by
    rw [← Int32.toInt_toBitVec, BitVec.toInt_eq_toNat_bmod]
  have h2 : s.toBitVec.toNat < 4294967296 := s.toBitVec.isLt
  simp only [Int.bmod] at h
  omega
theorem gm_z {s : Int32} : s = 0 ↔ s.toInt = 0 := by
  constructor
  · intro h; rw [h]; rfl
  · intro h; exact Int32.toInt_inj.mp h
theorem gm_even (s : Int32) : (s - s / (2 : Int32) * (2 : Int32) = 0) ↔ (s &&& (1 : Int32) = 0) := by
  have h1 : s &&& (1 : Int32) = nI (s.toBitVec.toNat % 2 ^ 1) := pk_and s 1 (by decide)
  have l1 := Int32.le_toInt s
  have l2 := Int32.toInt_lt s
  have e2 : (2 : Int32).toInt = 2 := rfl
  have q : (s / (2 : Int32)).toInt = s.toInt.tdiv 2 := by
    rw [Int32.toInt_div_of_ne_right _ _ (by decide), e2]
  have hq : s.toInt.tdiv 2 = s.toInt / 2 ∧ 0 ≤ s.toInt ∨ s.toInt.tdiv 2 = -((-s.toInt) / 2) ∧ s.toInt < 0 := by
    rcases Int.lt_or_le s.toInt 0 with h | h
    · exact Or.inr ⟨gm_tdm 2 h, h⟩
    · exact Or.inl ⟨gm_tdn 2 h, h⟩
  have m : (s / (2 : Int32) * (2 : Int32)).toInt = s.toInt.tdiv 2 * 2 := by
    rw [Int32.toInt_mul, q, e2]
    exact gm_bm (by omega) (by omega)
  have d : (s - s / (2 : Int32) * (2 : Int32)).toInt = s.toInt - s.toInt.tdiv 2 * 2 := by
    rw [Int32.toInt_sub, m]
    exact gm_bm (by omega) (by omega)
  rw [gm_z, d, h1, gm_z, nI_toInt (by omega)]
  have n := gm_nat s
  omega
/-! which hold at a point: a set -/
def gmask (C : Nat → Nat → Int32) : Nat → Nat → Nat
  | 0, _ => 0
  | n + 1, p => gmask C n p + (if ghold (C n 5) (gsum (C n) p) then 2 ^ n else 0)
theorem gmask_lt (C : Nat → Nat → Int32) (n p : Nat) : gmask C n p < 2 ^ n := by
  induction n with
  | zero => exact Nat.zero_lt_one
  | succ n ih =>
    show gmask C n p + _ < 2 ^ (n + 1)
    rw [Nat.pow_succ]
    split <;> omega
theorem gm_or8 : ∀ k, k < 8 → ∀ a, a < 2 ^ k → nI a ||| ((1 : Int32) <<< (nI k &&& 31)) = nI (a + 2 ^ k) := by decide +kernel
theorem gm_all : ∀ n, n ≤ 8 → ((1 : Int32) <<< (nI n &&& 31)) - (1 : Int32) = nI (2 ^ n - 1) := by decide +kernel
theorem s_X9_holdingAt {cells : Nat → Int32} {n p : Nat} {Q : Int32 → Prop} (hn : n ≤ 8) (hp : p < 4096) (hQ : Q (nI (gmask (fun k j => cells (6 * k + j)) n p))) : p_X9_holdingAt (nI n) cells (nI p) Q := by
  unfold p_X9_holdingAt
  refine gi2_inv n (fun i a b => b = nI i ∧ a = nI (gmask (fun k j => cells (6 * k + j)) i p)) ?_ ?_ ⟨rfl, rfl⟩
  · rintro i hi X a b ⟨rfl, rfl⟩ hX
    unfold p_X9_holdingAt_4 p_X9_holdingAt_38
    refine ⟨fun g => ?_, fun _ => ?_⟩
    · rw [nI_leI (by omega) (by omega)] at g; omega
    · unfold p_X9_cell
      have e5 : nI i * (6 : Int32) + (5 : Int32) = nI (6 * i + 5) := gx_6 i 5
      refine ⟨gx_in _ e5 (by omega) (by decide), s_X9_sumAt (by omega) hp (s_X1_holds ⟨fun g => hX _ _ ?_, fun g => hX _ _ ?_⟩)⟩
      · rw [gx_cl _ e5 (by omega)] at g
        refine ⟨by rw [gl_1, nI_add], ?_⟩
        show nI (gmask _ i p) ||| 0 = nI (gmask _ i p + _)
        by_cases h : ghold (cells (6 * i + 5)) (gsum (fun j => cells (6 * i + j)) p) = true
        · rw [if_pos h] at g; exact absurd g (by decide)
        · rw [if_neg h, Int32.or_zero]; rfl
      · rw [gx_cl _ e5 (by omega)] at g
        refine ⟨by rw [gl_1, nI_add], ?_⟩
        rw [gm_or8 i (by omega) _ (gmask_lt _ i p)]
        show nI (gmask _ i p + _) = nI (gmask _ i p + _)
        by_cases h : ghold (cells (6 * i + 5)) (gsum (fun j => cells (6 * i + j)) p) = true
        · rw [if_pos h]
        · rw [if_neg h] at g; exact absurd rfl g
  · rintro X a b ⟨rfl, rfl⟩
    unfold p_X9_holdingAt_4
    exact ⟨fun _ => hQ, fun g => absurd (by rw [nI_leI (by omega) (by omega)]; omega) g⟩
theorem s_X9_all {n : Nat} {Q : Int32 → Prop} (hn : n ≤ 8) (hQ : Q (nI (2 ^ n - 1))) : p_X9_all (nI n) Q := by
  unfold p_X9_all
  rw [gm_all n hn]
  exact hQ
/-! the box -/
def gbox (most p : Nat) : Bool := decide (gv p 0 ≤ most) && (decide (gv p 1 ≤ most) && (decide (gv p 2 ≤ most) && decide (gv p 3 ≤ most)))
theorem gbox_iff {most p : Nat} : gbox most p = true ↔ ∀ i, i < 4 → gv p i ≤ most := by
  unfold gbox
  simp only [Bool.and_eq_true, decide_eq_true_eq]
  constructor
  · rintro ⟨h0, h1, h2, h3⟩ i hi
    rcases (show i = 0 ∨ i = 1 ∨ i = 2 ∨ i = 3 by omega) with rfl | rfl | rfl | rfl <;> assumption
  · intro h
    exact ⟨h 0 (by decide), h 1 (by decide), h 2 (by decide), h 3 (by decide)⟩
theorem s_X9_isInBox {most p : Nat} {Q : Int32 → Prop} (hm : most ≤ 7) (hp : p < 4096) (hQ : Q (if gbox most p then 1 else 0)) : p_X9_isInBox (nI most) (nI p) Q := by
  unfold p_X9_isInBox
  refine gi1_inv 4 (fun i a => a = nI i ∧ ∀ j, j < i → gv p j ≤ most) ?_ ?_ ⟨rfl, fun j h => absurd h (Nat.not_lt_zero j)⟩
  · rintro i hi X a ⟨rfl, ha⟩ hX
    unfold p_X9_isInBox_2
    refine ⟨fun g => ?_, fun _ => s_X3_valueOf hp hi rfl ⟨fun g => hX _ ⟨by rw [gl_1, nI_add], ?_⟩, fun g => ?_⟩⟩
    · rw [gl_4, nI_leI (by decide) (by omega)] at g; omega
    · have hl := gv_lt p i
      rw [nI_leI (by omega) (by omega)] at g
      intro j hj
      rcases (show j < i ∨ j = i by omega) with h | rfl
      · exact ha j h
      · exact g
    · have hl := gv_lt p i
      rw [nI_leI (by omega) (by omega)] at g
      rw [if_neg (fun z => g (gbox_iff.mp z i hi))] at hQ
      exact hQ
  · rintro X a ⟨rfl, ha⟩
    unfold p_X9_isInBox_2
    rw [if_pos (gbox_iff.mpr ha)] at hQ
    exact ⟨fun _ => hQ, fun g => absurd (by rw [gl_4, nI_leI (by decide) (by decide)]; omega) g⟩
