/-! asked -/
theorem gm_abs {x : Int32} (h : x.toInt.natAbs < 2 ^ 30) : (if 0 ≤ x then x else 0 - x) = nI x.toInt.natAbs := by
  apply Int32.toInt_inj.mp
  rw [nI_toInt (by omega)]
  have z0 : (0 : Int32).toInt = 0 := rfl
  split
  · rename_i g
    rw [Int32.le_iff_toInt_le, z0] at g
    omega
  · rename_i g
    rw [Int32.le_iff_toInt_le, z0] at g
    rw [Int32.toInt_sub, z0, gm_bm (by omega) (by omega)]
    omega
theorem gm_absP {x : Int32} (h : x.toInt.natAbs < 2 ^ 30) (g : 0 ≤ x) : x = nI x.toInt.natAbs := by
  have := gm_abs h
  rw [if_pos g] at this
  exact this
theorem gm_absN {x : Int32} (h : x.toInt.natAbs < 2 ^ 30) (g : ¬ 0 ≤ x) : -x = nI x.toInt.natAbs := by
  apply Int32.toInt_inj.mp
  have z0 : (0 : Int32).toInt = 0 := rfl
  rw [Int32.le_iff_toInt_le, z0] at g
  rw [nI_toInt (by omega), Int32.toInt_neg, gm_bm (by omega) (by omega)]
  omega
theorem gcd_half {x y : Nat} (h : y < x) (h0 : 0 < y) : 2 * (x % y) ≤ x := by
  have h1 : x % y < y := Nat.mod_lt _ h0
  have h2 : y * (x / y) + x % y = x := Nat.div_add_mod x y
  have h3 : 1 ≤ x / y := Nat.div_pos (Nat.le_of_lt h) h0
  have h4 : y * 1 ≤ y * (x / y) := Nat.mul_le_mul_left y h3
  omega
theorem gcd_step (x y : Nat) : Nat.gcd y (x % y) = Nat.gcd x y := by
  rw [Nat.gcd_comm x y, Nat.gcd_rec y x, Nat.gcd_comm]
theorem s_X2_gd {x y : Int32} {Q : Int32 → Prop} (hx : x.toInt.natAbs < 2 ^ 30) (hy : y.toInt.natAbs < 2 ^ 30) (hQ : Q (nI (Nat.gcd x.toInt.natAbs y.toInt.natAbs))) : p_X2_greatestDivisor x y Q := by
  unfold p_X2_greatestDivisor
  rw [gm_abs hx, gm_abs hy]
  revert hx hy hQ
  generalize x.toInt.natAbs = x0
  generalize y.toInt.natAbs = y0
  intro hx hy hQ
  refine gi3_inv 64 (fun i a b c => c = nI i ∧ ∃ x y, a = nI x ∧ b = nI y ∧ x < 2 ^ 30 ∧ y < 2 ^ 30 ∧ Nat.gcd x y = Nat.gcd x0 y0 ∧ (1 ≤ i → y < x ∨ y = 0) ∧ (1 ≤ i → x * y * 2 ^ (i - 1) < 2 ^ 60)) ?_ ?_ ⟨rfl, x0, y0, rfl, rfl, hx, hy, rfl, fun z => absurd z (by decide), fun z => absurd z (by decide)⟩
  · rintro i hi X a b c ⟨rfl, x, y, rfl, rfl, k1, k2, k3, k4, k5⟩ hX
    unfold p_X2_greatestDivisor_13
    refine ⟨fun g => ?_, fun _ => ?_⟩
    · rw [show (64 : Int32) = nI 64 from rfl, nI_leI (by decide) (by omega)] at g; omega
    · rw [gl_0, nI_eq (by omega) (by decide)]
      refine ⟨fun g => ?_, fun g => ⟨g, ?_⟩⟩
      · subst g
        rw [Nat.gcd_zero_right] at k3
        rw [k3]
        exact hQ
      · have hm : x % y < y := Nat.mod_lt _ (by omega)
        rw [gx_r _ _ (by omega) (by omega) (by omega)]
        refine hX _ _ _ ⟨by rw [gl_1, nI_add], y, x % y, rfl, rfl, k2, by omega, by rw [gcd_step, k3], fun _ => Or.inl hm, fun _ => ?_⟩
        by_cases e : 1 ≤ i
        · have hyx : y < x := by
            rcases k4 e with z | z
            · exact z
            · exact absurd z g
          have h2 := gcd_half hyx (by omega)
          have h3 : y * (x % y) * 2 ^ (i + 1 - 1) ≤ x * y * 2 ^ (i - 1) := by
            have e1 : i + 1 - 1 = (i - 1) + 1 := by omega
            rw [e1, Nat.pow_succ, Nat.mul_comm (2 ^ (i - 1)) 2, ← Nat.mul_assoc]
            apply Nat.mul_le_mul_right
            rw [Nat.mul_assoc, Nat.mul_comm x y]
            apply Nat.mul_le_mul_left
            rw [Nat.mul_comm]
            exact h2
          exact Nat.lt_of_le_of_lt h3 (k5 e)
        · have e0 : i = 0 := by omega
          subst e0
          show y * (x % y) * 2 ^ 0 < 2 ^ 60
          rw [Nat.pow_zero, Nat.mul_one]
          have : y * (x % y) < 2 ^ 30 * 2 ^ 30 := Nat.mul_lt_mul'' k2 (by omega)
          exact this
  · rintro X a b c ⟨rfl, x, y, rfl, rfl, k1, k2, k3, k4, k5⟩
    have hz : y = 0 := by
      rcases k4 (by decide) with z | z
      · have h5 := k5 (by decide)
        rcases Nat.eq_zero_or_pos (x * y) with e | e
        · rcases Nat.mul_eq_zero.mp e with e2 | e2
          · omega
          · exact e2
        · exfalso
          have : 1 * 2 ^ (64 - 1) ≤ x * y * 2 ^ (64 - 1) := Nat.mul_le_mul_right _ e
          omega
      · exact z
    subst hz
    rw [Nat.gcd_zero_right] at k3
    unfold p_X2_greatestDivisor_13
    refine ⟨fun _ => by rw [k3]; exact hQ, fun g => absurd (by decide) g⟩
theorem s_X11_dv {x y : Int32} {Q : Int32 → Prop} (hx : x.toInt.natAbs < 2 ^ 30) (hy : y.toInt.natAbs < 2 ^ 30) (hQ : Q (nI (Nat.gcd x.toInt.natAbs y.toInt.natAbs))) : p_X11_divides x y Q := by
  have main : p_X11_divides_21 (nI x.toInt.natAbs) (nI y.toInt.natAbs) Q := by
    unfold p_X11_divides_21
    revert hx hy hQ
    generalize x.toInt.natAbs = x0
    generalize y.toInt.natAbs = y0
    intro hx hy hQ
    refine gi2_inv y0 (fun i a b => ∃ x y, a = nI x ∧ b = nI y ∧ x < 2 ^ 30 ∧ y < 2 ^ 30 ∧ Nat.gcd x y = Nat.gcd x0 y0 ∧ y + i ≤ y0) ?_ ?_ ⟨x0, y0, rfl, rfl, hx, hy, rfl, Nat.le_refl _⟩
    · rintro i hi X a b ⟨x, y, rfl, rfl, k1, k2, k3, k4⟩ hX
      unfold p_X11_divides_22
      rw [gl_0, nI_eq (by omega) (by decide)]
      refine ⟨fun g => ?_, fun g => ⟨g, ?_⟩⟩
      · subst g
        rw [Nat.gcd_zero_right] at k3
        rw [k3]
        exact hQ
      · have hm : x % y < y := Nat.mod_lt _ (by omega)
        rw [gx_r _ _ (by omega) (by omega) (by omega)]
        exact hX _ _ ⟨y, x % y, rfl, rfl, k2, by omega, by rw [gcd_step, k3], by omega⟩
    · rintro X a b ⟨x, y, rfl, rfl, k1, k2, k3, k4⟩
      have hz : y = 0 := by omega
      subst hz
      rw [Nat.gcd_zero_right] at k3
      unfold p_X11_divides_22
      exact ⟨fun _ => by rw [k3]; exact hQ, fun g => absurd rfl g⟩
  unfold p_X11_divides p_X11_divides_10
  refine ⟨fun g => ⟨fun g2 => ?_, fun g2 => ?_⟩, fun g => ⟨fun g2 => ?_, fun g2 => ?_⟩⟩
  · have e1 := gm_absP hx g
    have e2 := gm_absP hy g2
    rw [← e1, ← e2] at main
    exact main
  · have e1 := gm_absP hx g
    rw [← e1, ← gm_absN hy g2] at main
    exact main
  · have e2 := gm_absP hy g2
    rw [← gm_absN hx g, ← e2] at main
    exact main
  · rw [← gm_absN hx g, ← gm_absN hy g2] at main
    exact main
theorem gm_nab {a : Nat} (h : a < 2 ^ 30) : (nI a).toInt.natAbs = a := by
  rw [nI_toInt (by omega)]
  exact Int.natAbs_natCast a
theorem s_X2_gdN {a b : Nat} {Q : Int32 → Prop} (ha : a < 2 ^ 30) (hb : b < 2 ^ 30) (hQ : Q (nI (Nat.gcd a b))) : p_X2_greatestDivisor (nI a) (nI b) Q :=
  s_X2_gd (by rw [gm_nab ha]; exact ha) (by rw [gm_nab hb]; exact hb) (by rw [gm_nab ha, gm_nab hb]; exact hQ)
theorem s_X11_dvN {a b : Nat} {Q : Int32 → Prop} (ha : a < 2 ^ 30) (hb : b < 2 ^ 30) (hQ : Q (nI (Nat.gcd a b))) : p_X11_divides (nI a) (nI b) Q :=
  s_X11_dv (by rw [gm_nab ha]; exact ha) (by rw [gm_nab hb]; exact hb) (by rw [gm_nab ha, gm_nab hb]; exact hQ)
theorem s_power {b f : Nat} {Q : Int32 → Prop} (hf : f < 2 ^ 31) (hQ : Q (nI (b ^ f))) : p_X2_power (nI b) (nI f) Q := by
  unfold p_X2_power
  refine gi2_inv f (fun i a c => c = nI i ∧ a = nI (b ^ i)) ?_ ?_ ⟨rfl, by rw [Nat.pow_zero]; rfl⟩
  · rintro i hi X a c ⟨rfl, rfl⟩ hX
    unfold p_X2_power_4
    refine ⟨fun g => ?_, fun _ => hX _ _ ⟨by rw [gl_1, nI_add], by rw [pk_mul, Nat.pow_succ]⟩⟩
    rw [nI_leI (by omega) (by omega)] at g; omega
  · rintro X a c ⟨rfl, rfl⟩
    unfold p_X2_power_4
    exact ⟨fun _ => hQ, fun g => absurd (by rw [nI_leI (by omega) (by omega)]; exact Nat.le_refl _) g⟩
theorem gask : ∀ c, c < 11 → ∀ f, f < 9 → (10 - c) ^ f < 2 ^ 30 ∧ 10 ^ f < 2 ^ 30 ∧ 0 < Nat.gcd ((10 - c) ^ f) (10 ^ f) ∧ Nat.gcd ((10 - c) ^ f) (10 ^ f) < 2 ^ 30 ∧ 0 < Nat.gcd (10 - c) 10 ∧ Nat.gcd (10 - c) 10 < 2 ^ 30 ∧ ((10 - c) / Nat.gcd (10 - c) 10) ^ f = (10 - c) ^ f / Nat.gcd ((10 - c) ^ f) (10 ^ f) ∧ (10 / Nat.gcd (10 - c) 10) ^ f = 10 ^ f / Nat.gcd ((10 - c) ^ f) (10 ^ f) := by decide +kernel
theorem gbs_const {s n : Nat} (hs : s < 2 ^ n) : ∀ d, gbs s (n + d) = gbs s n := by
  intro d
  induction d with
  | zero => rfl
  | succ d ih =>
    show gbs s (n + d) + s / 2 ^ (n + d) % 2 = gbs s n
    have h1 : 2 ^ n ≤ 2 ^ (n + d) := Nat.pow_le_pow_right (by decide) (by omega)
    rw [Nat.div_eq_of_lt (by omega), ih]
    rfl
theorem s_X11_asked_57 {now : Nat → Int32} {n c m w : Nat} {Q : Int32 → Prop} (h0 : now 0 = nI n) (hn : n ≤ 8) (hc : c < 11) (hm : m < 2 ^ n) (hw : w < 2)
    (hQ : Q (nI (if w = 0 then ((10 - c) / Nat.gcd (10 - c) 10) ^ (n - gbs m 15) else (10 / Nat.gcd (10 - c) 10) ^ (n - gbs m 15)))) : ∃ k, gi3 (p_X11_asked_57 now (nI c) (nI w) (nI m) Q) k (1 : Int32) (1 : Int32) (0 : Int32) := by
  have hp := gm_p2 n hn
  refine gi3_inv n (fun i a b d => d = nI i ∧ a = nI ((10 - c) ^ (i - gbs m i)) ∧ b = nI (10 ^ (i - gbs m i))) ?_ ?_ ⟨rfl, rfl, rfl⟩
  · rintro i hi X a b d ⟨rfl, rfl, rfl⟩ hX
    have hb := gbs_le m i
    have hs : gbs m (i + 1) = gbs m i + m / 2 ^ i % 2 := rfl
    have e10 : (10 : Int32) - nI c = nI (10 - c) := pk_sub (a := 10) (by omega)
    have en : nI i + (1 : Int32) = nI (i + 1) := nI_add i 1
    unfold p_X11_asked_57 p_X11_asked_84 p_X11_asked_101 p_X11_asked_117
    rw [gcl_0, h0]
    refine ⟨vp_in_nI (n := 0) (by decide) (by decide), fun g => ?_, fun _ => ?_⟩
    · rw [nI_leI (by omega) (by omega)] at g; omega
    · rw [gm_bit (by omega) (by omega), e10, en]
      rcases gm_b01 m i with e | e
      · rw [e] at hs ⊢
        have e2 : i + 1 - gbs m (i + 1) = (i - gbs m i) + 1 := by omega
        refine ⟨fun g => absurd g (by decide), fun _ => ⟨fun _ => ⟨fun _ => hX _ _ _ ⟨rfl, ?_, ?_⟩, fun z => absurd rfl z⟩, fun z => absurd rfl z⟩⟩
        · rw [e2, Nat.pow_succ, pk_mul]
        · rw [e2, Nat.pow_succ, show (10 : Int32) = nI 10 from rfl, pk_mul]
      · rw [e] at hs ⊢
        have e2 : i + 1 - gbs m (i + 1) = i - gbs m i := by omega
        refine ⟨fun _ => ⟨g10, fun _ => ⟨g10, fun _ => hX _ _ _ ⟨rfl, ?_, ?_⟩⟩⟩, fun z => absurd rfl z⟩
        · rw [e2, Int32.mul_one]
        · rw [e2, Int32.mul_one]
  · rintro X a b d ⟨rfl, rfl, rfl⟩
    have hg : gbs m 15 = gbs m n := by
      have := gbs_const hm (15 - n)
      rw [show n + (15 - n) = 15 by omega] at this
      exact this
    rw [hg] at hQ
    have hb := gbs_le m n
    obtain ⟨k1, k2, k3, k4, -, -, k5, k6⟩ := gask c hc (n - gbs m n) (by omega)
    unfold p_X11_asked_57 p_X11_asked_146
    rw [gcl_0, h0]
    refine ⟨vp_in_nI (n := 0) (by decide) (by decide), fun _ => s_X11_dvN k1 k2 ?_, fun g => absurd (by rw [nI_leI (by omega) (by omega)]; exact Nat.le_refl _) g⟩
    rw [gl_0, nI_eq (by omega) (by decide)]
    refine ⟨fun g => ⟨nI_ne0 k3 (by omega), ?_⟩, fun g => ⟨nI_ne0 k3 (by omega), ?_⟩⟩
    · rw [if_pos g, k5] at hQ
      rw [gx_d _ _ (by omega) k3 (by omega)]
      exact hQ
    · rw [if_neg g, k6] at hQ
      rw [gx_d _ _ (by omega) k3 (by omega)]
      exact hQ
theorem o_asked {n mo : Nat} {cells now : Nat → Int32} {size most draw a1 a2 a3 : Int32} {X : Prop} (hS : gSnap n mo cells size most draw now) (hX : X) : p_X10_asked size most cells a1 a2 a3 (fun r1 => p_X11_asked now a1 a2 a3 (fun r2 => r1 = r2 ∧ X)) := by
  have hG := gmask_fn hS
  obtain ⟨hn, -, hm, rfl, rfl, h0, h1, -, -, hc, -⟩ := id hS
  unfold p_X10_asked
  by_cases h1p : ∃ p, p < 4096 ∧ a1 = nI p
  · obtain ⟨p, hp, rfl⟩ := h1p
    refine s_oR_in hp (by decide) rfl ⟨fun _ => s_X9_isInBox hm hp ?_, g00⟩
    by_cases hb : gbox mo p = true
    · rw [if_pos hb]
      refine ⟨g10, fun _ => ?_⟩
      by_cases h2 : ∃ c, c < 11 ∧ a2 = nI c
      · obtain ⟨c, hc, rfl⟩ := h2
        refine s_oR_in hc (by decide) rfl ⟨fun _ => ?_, g00⟩
        by_cases h3 : ∃ w, w < 2 ∧ a3 = nI w
        · obtain ⟨w, hw, rfl⟩ := h3
          have hlt := gmask_lt (fun k j => cells (6 * k + j)) n p
          have hp2 := gm_p2 n hn
          have hgb : gbs (gmask (fun k j => cells (6 * k + j)) n p) 15 ≤ n := by
            have := gbs_const hlt (15 - n)
            rw [show n + (15 - n) = 15 by omega] at this
            rw [this]
            exact gbs_le _ _
          have e10 : (10 : Int32) - nI c = nI (10 - c) := pk_sub (a := 10) (by omega)
          have eL : (10 : Int32) = nI 10 := rfl
          obtain ⟨-, -, -, -, g1, g2, -, -⟩ := gask c hc 0 (by decide)
          refine s_oR_in hw (by decide) rfl ⟨fun _ => s_X9_holdingAt hn hp (s_bitCount (by omega) ?_), g00⟩
          rw [e10, pk_sub hgb]
          have fin : ∀ (b : Nat), b < 2 ^ 30 → b = (if w = 0 then 10 - c else 10) → p_X10_asked_98 (nI (n - gbs (gmask (fun k j => cells (6 * k + j)) n p) 15)) (nI (Nat.gcd (10 - c) 10)) (nI b) (fun r1 => p_X11_asked now (nI p) (nI c) (nI w) (fun r2 => r1 = r2 ∧ X)) := by
            intro b hb30 hbe
            unfold p_X10_asked_98
            have ei : (if nI (Nat.gcd (10 - c) 10) < (1 : Int32) then (1 : Int32) else nI (Nat.gcd (10 - c) 10)) = nI (Nat.gcd (10 - c) 10) := by
              refine if_neg (fun z => ?_)
              rw [gl_1, nI_ltI (by omega) (by decide)] at z
              omega
            rw [ei]
            refine ⟨nI_ne0 g1 (by omega), fun z hz => ?_⟩
            rw [gx_d _ _ (by omega) g1 (by omega)] at hz
            subst hz
            refine s_power (by omega) ?_
            unfold p_X11_asked
            refine gm_pt hp ⟨g10, fun _ => s_X11_isBoxed h1 hm hp ?_⟩
            rw [if_pos hb]
            refine ⟨g10, fun _ => s_iR_in hc (by decide) (by decide) ⟨g10, fun _ => s_iR_in hw (by decide) (by decide) ⟨g10, fun _ => s_X11_holdsAt h0 hn hp ?_⟩⟩⟩
            rw [← hG]
            refine s_X11_asked_57 h0 hn hc hlt hw ⟨?_, hX⟩
            subst hbe
            split <;> rfl
          refine s_X2_gdN (b := 10) (by omega) (by decide) ?_
          rw [gl_0, nI_eq (by omega) (by decide)]
          exact ⟨fun g => fin (10 - c) (by omega) (if_pos g).symm, fun g => fin 10 (by decide) (if_neg g).symm⟩
        · refine s_oR_out h3 (by decide) (by decide) rfl ⟨g10, fun _ => ?_⟩
          unfold p_X11_asked
          refine gm_pt hp ⟨g10, fun _ => s_X11_isBoxed h1 hm hp ?_⟩
          rw [if_pos hb]
          exact ⟨g10, fun _ => s_iR_in hc (by decide) (by decide) ⟨g10, fun _ => s_iR_out h3 (by decide) (by decide) ⟨fun _ => ⟨rfl, hX⟩, g00⟩⟩⟩
      · refine s_oR_out h2 (by decide) (by decide) rfl ⟨g10, fun _ => ?_⟩
        unfold p_X11_asked
        refine gm_pt hp ⟨g10, fun _ => s_X11_isBoxed h1 hm hp ?_⟩
        rw [if_pos hb]
        exact ⟨g10, fun _ => s_iR_out h2 (by decide) (by decide) ⟨fun _ => ⟨rfl, hX⟩, g00⟩⟩
    · rw [if_neg hb]
      refine ⟨fun _ => ?_, g00⟩
      unfold p_X11_asked
      refine gm_pt hp ⟨g10, fun _ => s_X11_isBoxed h1 hm hp ?_⟩
      rw [if_neg hb]
      exact ⟨fun _ => ⟨rfl, hX⟩, g00⟩
  · refine s_oR_out h1p (by decide) (by decide) rfl ⟨g10, fun _ => ?_⟩
    unfold p_X11_asked
    exact gm_npt h1p ⟨fun _ => ⟨rfl, hX⟩, g00⟩
