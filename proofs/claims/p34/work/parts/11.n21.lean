/-! rows reduced -/
theorem gm_fl {X d : Int} (hd : 0 < d) : (-((-X) / d) * d = X → X / d = -((-X) / d)) ∧ (¬ -((-X) / d) * d = X → X / d = -((-X) / d) - 1) := by
  have h1 : (-X) % d + d * ((-X) / d) = -X := Int.emod_add_mul_ediv (-X) d
  have h2 : 0 ≤ (-X) % d := Int.emod_nonneg _ (Int.ne_of_gt hd)
  have h3 : (-X) % d < d := Int.emod_lt_of_pos _ hd
  revert h1 h2 h3
  generalize (-X) / d = q
  generalize (-X) % d = r
  intro h1 h2 h3
  have e1 : -q * d = -(d * q) := by rw [Int.neg_mul, Int.mul_comm]
  have e2 : d * (-q) = -(d * q) := Int.mul_neg d q
  have e3 : d * (-q - 1) = -(d * q) - d := by rw [Int.mul_sub, e2, Int.mul_one]
  rw [e1]
  refine ⟨fun z => ?_, fun z => ?_⟩
  · exact ((Int.ediv_emod_unique (a := X) (r := 0) (q := -q) hd).mpr ⟨by rw [e2]; omega, by omega, hd⟩).1
  · exact ((Int.ediv_emod_unique (a := X) (r := d - r) (q := -q - 1) hd).mpr ⟨by rw [e3]; omega, by omega, by omega⟩).1
theorem gm_ceil {X d : Int} (hd : 0 < d) : -((d - 1 - X) / d) = X / d := by
  have h1 : X % d + d * (X / d) = X := Int.emod_add_mul_ediv X d
  have h2 : 0 ≤ X % d := Int.emod_nonneg _ (Int.ne_of_gt hd)
  have h3 : X % d < d := Int.emod_lt_of_pos _ hd
  revert h1 h2 h3
  generalize X / d = q
  generalize X % d = r
  intro h1 h2 h3
  have e2 : d * (-q) = -(d * q) := Int.mul_neg d q
  have := ((Int.ediv_emod_unique (a := d - 1 - X) (r := d - 1 - r) (q := -q) hd).mpr ⟨by rw [e2]; omega, by omega, by omega⟩).1
  rw [this, Int.neg_neg]
theorem gm_edb {X d : Int} (hd : 0 < d) : -(X.natAbs : Int) ≤ X / d ∧ X / d ≤ X.natAbs := by
  have h1 : X % d + d * (X / d) = X := Int.emod_add_mul_ediv X d
  have h2 : 0 ≤ X % d := Int.emod_nonneg _ (Int.ne_of_gt hd)
  have h3 : X % d < d := Int.emod_lt_of_pos _ hd
  revert h1 h2 h3
  generalize X / d = q
  generalize X % d = r
  intro h1 h2 h3
  rcases Int.lt_or_le q 0 with h | h
  · have e : d * (-(q + 1)) = -(d * q) - d := by rw [Int.mul_neg, Int.mul_add, Int.mul_one]; omega
    have h5 : 1 * (-(q + 1)) ≤ d * (-(q + 1)) := Int.mul_le_mul_of_nonneg_right (by omega) (by omega)
    omega
  · have h5 : 1 * q ≤ d * q := Int.mul_le_mul_of_nonneg_right (by omega) h
    omega
theorem gm_msb (y : Int32) : 0 ≤ y ↔ y.toBitVec.msb = false := by
  have z0 : (0 : Int32).toInt = 0 := rfl
  have h := BitVec.toInt_eq_msb_cond y.toBitVec
  have hl : y.toBitVec.toNat < 4294967296 := y.toBitVec.isLt
  rw [Int32.le_iff_toInt_le, z0, ← Int32.toInt_toBitVec, h]
  cases hm : y.toBitVec.msb
  · simp
  · simp
    omega
theorem gm_xs {x : Int32} {d : Nat} (hd : d < 2 ^ 31) : 0 ≤ x ^^^ nI d ↔ 0 ≤ x := by
  have h1 : (nI d).toBitVec.msb = false := (gm_msb _).mp (nI_pos' hd)
  rw [gm_msb, gm_msb]
  show (x.toBitVec ^^^ (nI d).toBitVec).msb = false ↔ _
  rw [BitVec.msb_xor, h1, Bool.xor_false]
theorem gm_nm1 {d : Nat} (hd : d < 2 ^ 30) : nI d ≠ -1 := by
  intro h
  have := congrArg Int32.toInt h
  rw [nI_toInt (by omega), show (-1 : Int32).toInt = -1 from rfl] at this
  omega
theorem gm_td {x : Int32} {d : Nat} (hd : d < 2 ^ 30) : (x / nI d).toInt = x.toInt.tdiv d := by
  rw [Int32.toInt_div_of_ne_right _ _ (gm_nm1 hd), nI_toInt (by omega)]
/-- rounded down -/
def gfl (x : Int32) (d : Nat) : Int32 := Int32.ofInt (x.toInt / (d : Int))
theorem gfl_toInt {x : Int32} {d : Nat} (hd : 0 < d) (hx : x.toInt.natAbs < 2 ^ 30) : (gfl x d).toInt = x.toInt / d := by
  have h := gm_edb (X := x.toInt) (d := d) (by omega)
  unfold gfl
  exact Int32.toInt_ofInt_of_le (by omega) (by omega)
theorem s_fdiv {x : Int32} {d : Nat} {Q : Int32 → Prop} (hd : 0 < d) (hd2 : d < 2 ^ 30) (hx : x.toInt.natAbs < 2 ^ 30) (hQ : Q (gfl x d)) : p_J9_floorDiv_7cf53 x (nI d) Q := by
  have z0 : (0 : Int32).toInt = 0 := rfl
  have hf := gfl_toInt hd hx
  have ht := gm_td (x := x) hd2
  have hb := gm_edb (X := x.toInt) (d := d) (by omega)
  unfold p_J9_floorDiv_7cf53
  rw [gm_xs (by omega)]
  refine ⟨nI_ne0 hd (by omega), fun g => ?_, fun g => ?_⟩
  · rw [Int32.le_iff_toInt_le, z0] at g
    have : x / nI d = gfl x d := by
      apply Int32.toInt_inj.mp
      rw [hf, ht, gm_tdn _ g]
    rw [this]
    exact hQ
  · rw [Int32.le_iff_toInt_le, z0] at g
    rw [gm_tdm _ (by omega)] at ht
    have hfl := gm_fl (X := x.toInt) (d := d) (by omega)
    have hb2 := gm_edb (X := -x.toInt) (d := d) (by omega)
    have hq0 : 0 ≤ -x.toInt / (d : Int) := Int.ediv_nonneg (by omega) (by omega)
    have h1 : (-x.toInt) % (d : Int) + (d : Int) * ((-x.toInt) / d) = -x.toInt := Int.emod_add_mul_ediv _ _
    have h2 : 0 ≤ (-x.toInt) % (d : Int) := Int.emod_nonneg _ (by omega)
    have e1 : -(-x.toInt / (d : Int)) * (d : Int) = -((d : Int) * (-x.toInt / d)) := by rw [Int.neg_mul, Int.mul_comm]
    have h5 : 0 ≤ (d : Int) * (-x.toInt / d) := Int.mul_nonneg (by omega) hq0
    have hm : (x / nI d * nI d).toInt = -(-x.toInt / (d : Int)) * d := by
      rw [Int32.toInt_mul, ht, nI_toInt (by omega), e1]
      exact gm_bm (by omega) (by omega)
    refine ⟨fun e => ?_, fun e => ?_⟩
    · have : x / nI d = gfl x d := by
        apply Int32.toInt_inj.mp
        rw [hf, ht]
        refine (hfl.1 ?_).symm
        rw [← hm, e]
      rw [this]
      exact hQ
    · have : x / nI d - 1 = gfl x d := by
        apply Int32.toInt_inj.mp
        rw [hf, Int32.toInt_sub, ht, show (1 : Int32).toInt = 1 from rfl, gm_bm (by omega) (by omega)]
        refine (hfl.2 (fun z => e ?_)).symm
        apply Int32.toInt_inj.mp
        rw [hm, z]
      rw [this]
      exact hQ
theorem gm_ex {x : Int32} {d : Nat} (hd : 0 < d) (hd2 : d < 2 ^ 30) (hx : x.toInt.natAbs < 2 ^ 30) (hdv : d ∣ x.toInt.natAbs) : x / nI d = gfl x d := by
  apply Int32.toInt_inj.mp
  rw [gfl_toInt hd hx, gm_td hd2]
  rcases Int.lt_or_le x.toInt 0 with h | h
  · rw [gm_tdm _ h]
    refine ((gm_fl (X := x.toInt) (d := d) (by omega)).1 ?_).symm
    have h1 : (d : Int) ∣ -x.toInt := Int.ofNat_dvd_left.mpr (by rw [Int.natAbs_neg]; exact hdv)
    rw [Int.neg_mul, Int.ediv_mul_cancel h1, Int.neg_neg]
  · rw [gm_tdn _ h]
def ggc (x : Nat → Int32) : Nat → Nat
  | 0 => 0
  | k + 1 => Nat.gcd (ggc x k) (x k).toInt.natAbs
theorem ggc_dvd (x : Nat → Int32) : ∀ k j, j < k → ggc x k ∣ (x j).toInt.natAbs := by
  intro k
  induction k with
  | zero => intro j hj; exact absurd hj (Nat.not_lt_zero j)
  | succ k ih =>
    intro j hj
    by_cases e : j = k
    · subst e; exact Nat.gcd_dvd_right _ _
    · exact Nat.dvd_trans (Nat.gcd_dvd_left _ _) (ih j (by omega))
theorem ggc_lt {x : Nat → Int32} {N : Nat} (hb : ∀ j, j < N → (x j).toInt.natAbs < 2 ^ 30) : ∀ k, k ≤ N → ggc x k < 2 ^ 30 := by
  intro k
  induction k with
  | zero => intro _; exact (by decide : (0 : Nat) < 2 ^ 30)
  | succ k ih =>
    intro hk
    show Nat.gcd (ggc x k) (x k).toInt.natAbs < 2 ^ 30
    have h1 := hb k (by omega)
    have h2 := ih (by omega)
    rcases Nat.eq_zero_or_pos (x k).toInt.natAbs with e | e
    · rw [e, Nat.gcd_zero_right]; exact h2
    · have := Nat.gcd_le_right (ggc x k) e
      omega
def gred (x : Nat → Int32) (j : Nat) : Int32 := if ggc x 4 = 0 then x j else gfl (x j) (ggc x 4)
theorem gfl_1 (x : Int32) : gfl x 1 = x := by
  unfold gfl
  rw [show ((1 : Nat) : Int) = 1 from rfl, Int.ediv_one, Int32.ofInt_toInt]
theorem s_X4_reduceLast {nt m : Nat} {c x : Nat → Int32} {Q : (Nat → Int32) → Prop} (hm : 5 * m + 5 ≤ nt) (hnt : nt < 1000) (hx : ∀ j, j < 5 → c (5 * m + j) = x j) (hb : ∀ j, j < 5 → (x j).toInt.natAbs < 2 ^ 30) (hQ : ∀ c', (∀ j, j < 5 → c' (5 * m + j) = gred x j) → (∀ q, ¬ (5 * m ≤ q ∧ q < 5 * m + 5) → c' q = c q) → Q c') : p_X4_reduceLast nt (nI (m + 1)) c Q := by
  have hl : ∀ k, k ≤ 4 → ggc x k < 2 ^ 30 := ggc_lt (N := 4) (fun j hj => hb j (by omega))
  unfold p_X4_reduceLast
  have ea : (nI (m + 1) - (1 : Int32)) * (5 : Int32) = nI (5 * m) := by
    have e := nI_pred m
    rw [e, gl_5, pk_mul, Nat.mul_comm]
  rw [ea]
  refine gi2_inv 4 (fun i a b => b = nI i ∧ a = nI (ggc x i)) ?_ ?_ ⟨rfl, rfl⟩
  · rintro i hi X a b ⟨rfl, rfl⟩ hX
    unfold p_X4_reduceLast_13
    refine ⟨fun g => ?_, fun _ => ⟨gx_in _ (nI_add _ _) (by omega) (by omega), ?_⟩⟩
    · rw [gl_4, nI_leI (by decide) (by omega)] at g; omega
    · rw [gx_cl _ (nI_add _ _) (by omega), hx i (by omega)]
      have h1 := hl i (by omega)
      refine s_X2_gd (by rw [gm_nab h1]; exact h1) (hb i (by omega)) ?_
      rw [gm_nab h1]
      exact hX _ _ ⟨by rw [gl_1, nI_add], rfl⟩
  · rintro X a b ⟨rfl, rfl⟩
    have h4 := hl 4 (by decide)
    unfold p_X4_reduceLast_13
    refine ⟨fun _ => ?_, fun g => absurd (by decide) g⟩
    rw [gl_1, nI_leI (by omega) (by decide)]
    refine ⟨fun g => hQ c (fun j hj => ?_) (fun _ _ => rfl), fun g => ?_⟩
    · rw [hx j hj]
      unfold gred
      by_cases e : ggc x 4 = 0
      · rw [if_pos e]
      · have e1 : ggc x 4 = 1 := by omega
        rw [e1, if_neg (by decide), gfl_1]
    · refine gi2_inv 5 (fun i a e => a = nI i ∧ (∀ j, j < i → e (5 * m + j) = gred x j) ∧ ∀ q, ¬ (5 * m ≤ q ∧ q < 5 * m + i) → e q = c q) ?_ ?_ ⟨rfl, fun j hj => absurd hj (Nat.not_lt_zero j), fun _ _ => rfl⟩
      · rintro i hi X a e ⟨rfl, e1, e2⟩ hX
        unfold p_X4_reduceLast_44
        refine ⟨fun g2 => ?_, fun _ => ⟨gx_in _ (nI_add _ _) (by omega) (by omega), ?_⟩⟩
        · rw [gl_5, nI_leI (by decide) (by omega)] at g2; omega
        · rw [gx_cl _ (nI_add _ _) (by omega), e2 _ (by omega), hx i hi]
          refine s_fdiv (by omega) h4 (hb i hi) ⟨gx_in _ (nI_add _ _) (by omega) (by omega), hX _ _ ⟨by rw [gl_1, nI_add], fun j hj => ?_, fun q hq => ?_⟩⟩
          · by_cases ej : j = i
            · subst ej
              rw [pk_us]
              exact (if_neg (by omega)).symm
            · rw [pk_un (by omega)]
              exact e1 j (by omega)
          · rw [pk_un (by omega)]
            exact e2 q (by omega)
      · rintro X a e ⟨rfl, e1, e2⟩
        unfold p_X4_reduceLast_44
        exact ⟨fun _ => hQ e e1 e2, fun g2 => absurd (by decide) g2⟩
