/-! asked -/
theorem gm_abs {x : Int32} (h : x.toInt.natAbs < 2 ^ 30) : (if 0 ≤ x then x else 0 - x) = nI x.toInt.natAbs := by
  apply Int32.toInt_inj.mp
  rw [nI_toInt (by omega)]
  have z0 : (0 : Int32).toInt = 0 := rfl
  split
  · rename_i g
    rw [Int32.le_iff_toInt_le, z0] at g
    omega
  · rename_i g
    rw [Int32.le_iff_toInt_le, z0] at g
    rw [Int32.toInt_sub, z0, gm_bm (by omega) (by omega)]
    omega
theorem gm_absP {x : Int32} (h : x.toInt.natAbs < 2 ^ 30) (g : 0 ≤ x) : x = nI x.toInt.natAbs := by
  have := gm_abs h
  rw [if_pos g] at this
  exact this
theorem gm_absN {x : Int32} (h : x.toInt.natAbs < 2 ^ 30) (g : ¬ 0 ≤ x) : -x = nI x.toInt.natAbs := by
  apply Int32.toInt_inj.mp
  have z0 : (0 : Int32).toInt = 0 := rfl
  rw [Int32.le_iff_toInt_le, z0] at g
  rw [nI_toInt (by omega), Int32.toInt_neg, gm_bm (by omega) (by omega)]
  omega
theorem gcd_half {x y : Nat} (h : y < x) (h0 : 0 < y) : 2 * (x % y) ≤ x := by
  have h1 : x % y < y := Nat.mod_lt _ h0
  have h2 : y * (x / y) + x % y = x := Nat.div_add_mod x y
  have h3 : 1 ≤ x / y := Nat.div_pos (Nat.le_of_lt h) h0
  have h4 : y * 1 ≤ y * (x / y) := Nat.mul_le_mul_left y h3
  omega
theorem gcd_step (x y : Nat) : Nat.gcd y (x % y) = Nat.gcd x y := by
  rw [Nat.gcd_comm x y, Nat.gcd_rec y x, Nat.gcd_comm]
theorem s_X2_gd {x y : Int32} {Q : Int32 → Prop} (hx : x.toInt.natAbs < 2 ^ 30) (hy : y.toInt.natAbs < 2 ^ 30) (hQ : Q (nI (Nat.gcd x.toInt.natAbs y.toInt.natAbs))) : p_X2_greatestDivisor x y Q := by
  unfold p_X2_greatestDivisor
  rw [gm_abs hx, gm_abs hy]
  revert hx hy hQ
  generalize x.toInt.natAbs = x0
  generalize y.toInt.natAbs = y0
  intro hx hy hQ
  refine gi3_inv 64 (fun i a b c => c = nI i ∧ ∃ x y, a = nI x ∧ b = nI y ∧ x < 2 ^ 30 ∧ y < 2 ^ 30 ∧ Nat.gcd x y = Nat.gcd x0 y0 ∧ (1 ≤ i → y < x ∨ y = 0) ∧ (1 ≤ i → x * y * 2 ^ (i - 1) < 2 ^ 60)) ?_ ?_ ⟨rfl, x0, y0, rfl, rfl, hx, hy, rfl, fun z => absurd z (by decide), fun z => absurd z (by decide)⟩
  · rintro i hi X a b c ⟨rfl, x, y, rfl, rfl, k1, k2, k3, k4, k5⟩ hX
    unfold p_X2_greatestDivisor_13
    refine ⟨fun g => ?_, fun _ => ?_⟩
    · rw [show (64 : Int32) = nI 64 from rfl, nI_leI (by decide) (by omega)] at g; omega
    · rw [gl_0, nI_eq (by omega) (by decide)]
      refine ⟨fun g => ?_, fun g => ⟨g, ?_⟩⟩
      · subst g
        rw [Nat.gcd_zero_right] at k3
        rw [k3]
        exact hQ
      · have hm : x % y < y := Nat.mod_lt _ (by omega)
        rw [gx_r _ _ (by omega) (by omega) (by omega)]
        refine hX _ _ _ ⟨by rw [gl_1, nI_add], y, x % y, rfl, rfl, k2, by omega, by rw [gcd_step, k3], fun _ => Or.inl hm, fun _ => ?_⟩
        by_cases e : 1 ≤ i
        · have hyx : y < x := by
            rcases k4 e with z | z
            · exact z
            · exact absurd z g
          have h2 := gcd_half hyx (by omega)
          have h3 : y * (x % y) * 2 ^ (i + 1 - 1) ≤ x * y * 2 ^ (i - 1) := by
            have e1 : i + 1 - 1 = (i - 1) + 1 := by omega
            rw [e1, Nat.pow_succ, Nat.mul_comm (2 ^ (i - 1)) 2, ← Nat.mul_assoc]
            apply Nat.mul_le_mul_right
            rw [Nat.mul_assoc, Nat.mul_comm x y]
            apply Nat.mul_le_mul_left
            rw [Nat.mul_comm]
            exact h2
          exact Nat.lt_of_le_of_lt h3 (k5 e)
        · have e0 : i = 0 := by omega
          subst e0
          show y * (x % y) * 2 ^ 0 < 2 ^ 60
          rw [Nat.pow_zero, Nat.mul_one]
          have : y * (x % y) < 2 ^ 30 * 2 ^ 30 := Nat.mul_lt_mul'' k2 (by omega)
          exact this
  · rintro X a b c ⟨rfl, x, y, rfl, rfl, k1, k2, k3, k4, k5⟩
    have hz : y = 0 := by
      rcases k4 (by decide) with z | z
      · have h5 := k5 (by decide)
        rcases Nat.eq_zero_or_pos (x * y) with e | e
        · rcases Nat.mul_eq_zero.mp e with e2 | e2
          · omega
          · exact e2
        · exfalso
          have : 1 * 2 ^ (64 - 1) ≤ x * y * 2 ^ (64 - 1) := Nat.mul_le_mul_right _ e
          omega
      · exact z
    subst hz
    rw [Nat.gcd_zero_right] at k3
    unfold p_X2_greatestDivisor_13
    refine ⟨fun _ => by rw [k3]; exact hQ, fun g => absurd (by decide) g⟩
theorem gm_nab {a : Nat} (h : a < 2 ^ 30) : (nI a).toInt.natAbs = a := by
  rw [nI_toInt (by omega)]
  exact Int.natAbs_natCast a
theorem s_X2_gdN {a b : Nat} {Q : Int32 → Prop} (ha : a < 2 ^ 30) (hb : b < 2 ^ 30) (hQ : Q (nI (Nat.gcd a b))) : p_X2_greatestDivisor (nI a) (nI b) Q :=
  s_X2_gd (by rw [gm_nab ha]; exact ha) (by rw [gm_nab hb]; exact hb) (by rw [gm_nab ha, gm_nab hb]; exact hQ)
theorem s_power {b f : Nat} {Q : Int32 → Prop} (hf : f < 2 ^ 31) (hQ : Q (nI (b ^ f))) : p_X2_power (nI b) (nI f) Q := by
  unfold p_X2_power
  refine gi2_inv f (fun i a c => c = nI i ∧ a = nI (b ^ i)) ?_ ?_ ⟨rfl, by rw [Nat.pow_zero]; rfl⟩
  · rintro i hi X a c ⟨rfl, rfl⟩ hX
    unfold p_X2_power_4
    refine ⟨fun g => ?_, fun _ => hX _ _ ⟨by rw [gl_1, nI_add], by rw [pk_mul, Nat.pow_succ]⟩⟩
    rw [nI_leI (by omega) (by omega)] at g; omega
  · rintro X a c ⟨rfl, rfl⟩
    unfold p_X2_power_4
    exact ⟨fun _ => hQ, fun g => absurd (by rw [nI_leI (by omega) (by omega)]; exact Nat.le_refl _) g⟩
theorem gask : ∀ c, c < 11 → ∀ f, f < 9 → (10 - c) ^ f < 2 ^ 30 ∧ 10 ^ f < 2 ^ 30 ∧ 0 < Nat.gcd ((10 - c) ^ f) (10 ^ f) ∧ Nat.gcd ((10 - c) ^ f) (10 ^ f) < 2 ^ 30 ∧ 0 < Nat.gcd (10 - c) 10 ∧ Nat.gcd (10 - c) 10 < 2 ^ 30 ∧ ((10 - c) / Nat.gcd (10 - c) 10) ^ f = (10 - c) ^ f / Nat.gcd ((10 - c) ^ f) (10 ^ f) ∧ (10 / Nat.gcd (10 - c) 10) ^ f = 10 ^ f / Nat.gcd ((10 - c) ^ f) (10 ^ f) := by decide +kernel
theorem gbs_const {s n : Nat} (hs : s < 2 ^ n) : ∀ d, gbs s (n + d) = gbs s n := by
  intro d
  induction d with
  | zero => rfl
  | succ d ih =>
    show gbs s (n + d) + s / 2 ^ (n + d) % 2 = gbs s n
    have h1 : 2 ^ n ≤ 2 ^ (n + d) := Nat.pow_le_pow_right (by decide) (by omega)
    rw [Nat.div_eq_of_lt (by omega), ih]
    rfl
