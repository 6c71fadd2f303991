/-! draws: the law's system is one -/
theorem gm_d7 : ∀ m, m < 7 → (-9 ≤ ((nI m - (3 : Int32)) * (2 : Int32)).toInt ∧ ((nI m - (3 : Int32)) * (2 : Int32)).toInt ≤ 9) ∧ -9 ≤ ((nI m - (3 : Int32)) * (1 : Int32)).toInt ∧ ((nI m - (3 : Int32)) * (1 : Int32)).toInt ≤ 9 := by decide +kernel
theorem gm_rem7 {a : Nat} (ha : a < 2 ^ 31) : nI a - nI a / (7 : Int32) * (7 : Int32) = nI (a % 7) := pk_rem (d := 7) ha (by decide) (by decide)
def gro (e : Nat → Int32) (k : Nat) : Prop := (∀ j, j < 4 → -9 ≤ (e (3 + 6 * k + j)).toInt ∧ (e (3 + 6 * k + j)).toInt ≤ 9) ∧ (-99 ≤ (e (3 + 6 * k + 4)).toInt ∧ (e (3 + 6 * k + 4)).toInt ≤ 99) ∧ ∃ c, c ≤ 4 ∧ e (3 + 6 * k + 5) = nI c
theorem gro_cg {e e' : Nat → Int32} {k : Nat} (h : gro e k) (hq : ∀ q, 3 + 6 * k ≤ q → q < 3 + 6 * k + 6 → e' q = e q) : gro e' k := by
  obtain ⟨h1, h2, c, h3, h4⟩ := h
  refine ⟨fun j hj => ?_, ?_, c, h3, ?_⟩
  · rw [hq _ (by omega) (by omega)]; exact h1 j hj
  · rw [hq _ (by omega) (by omega)]; exact h2
  · rw [hq _ (by omega) (by omega)]; exact h4
theorem lx_draws {sL : Nat} {xs a : Nat → Int32} {Q : (Nat → Int32) → Prop} (hL : sL ≤ 260) (hQ : ∀ n mo C w, n ≤ 6 → 1 ≤ mo → mo ≤ 5 → gRC n C → gLw n mo C w → Q w) : p_L_draws sL xs a Q := by
  have o1 : (1 : Int32).toBitVec.toNat = 2 ^ 1 - 1 := by decide
  unfold p_L_draws
  rw [gl_0]
  refine lx_cell (k := 0) hL (by decide) (fun x hx _ => ?_)
  have e3 : nI x >>> ((3 : Int32) &&& 31) = nI (x / 2 ^ 3) := gx_sh (k := 3) hx (by decide)
  have e5 : nI x >>> ((5 : Int32) &&& 31) = nI (x / 2 ^ 5) := gx_sh (k := 5) hx (by decide)
  have l3 : x / 2 ^ 3 < 2 ^ 31 := Nat.lt_of_le_of_lt (Nat.div_le_self _ _) hx
  have l5 : x / 2 ^ 5 < 2 ^ 31 := Nat.lt_of_le_of_lt (Nat.div_le_self _ _) hx
  have e1 : nI (x / 2 ^ 5) &&& (1 : Int32) = nI (x / 2 ^ 5 % 2) := pk_andN (by omega) 1 (by decide)
  have c1 : (1 : Int32) + nI (x / 2 ^ 3 % 4) = nI (1 + x / 2 ^ 3 % 4) := nI_add 1 _
  rw [gx_a7 hx, gm_rem7 (by omega), e3, gx_a3 l3, e5, e1, c1, nI_add]
  have hn : x % 8 % 7 ≤ 6 := by omega
  have hmo1 : 1 ≤ 1 + x / 2 ^ 3 % 4 + x / 2 ^ 5 % 2 := by omega
  have hmo5 : 1 + x / 2 ^ 3 % 4 + x / 2 ^ 5 % 2 ≤ 5 := by omega
  revert hn hmo1 hmo5
  generalize x % 8 % 7 = n
  generalize 1 + x / 2 ^ 3 % 4 + x / 2 ^ 5 % 2 = mo
  intro hn hmo1 hmo5
  refine ⟨gx_in 0 rfl (by decide) (by decide), gx_in 1 rfl (by decide) (by decide), gx_in 2 rfl (by decide) (by decide), ?_⟩
  rw [← gl_0, gcl_0, gcl_1]
  have c2 : (2 : Int32).toNatClampNeg = 2 := by decide
  rw [c2]
  refine gi2_ix (fun i b e => ∃ k, i + k = n ∧ b = nI k ∧ e 0 = nI n ∧ e 1 = nI mo ∧ ∀ t, t < k → gro e t) ?_ n ⟨0, rfl, rfl, ?_, ?_, fun t ht => absurd ht (Nat.not_lt_zero t)⟩
  · rintro i X b e ⟨k, hi, rfl, e0, e1, hr⟩ hX
    unfold p_L_draws_38
    refine ⟨gx_in 0 rfl (by decide) (by decide), ?_⟩
    rw [gcl_0, e0]
    refine ⟨fun y => ?_, fun y => ?_⟩
    · rw [nI_leI (by omega) (by omega)] at y
      have ek : k = n := by omega
      subst ek
      exact hQ k mo (fun k j => e (3 + 6 * k + j)) e hn hmo1 hmo5 (fun t ht => hr t ht) ⟨e0, e1, fun _ _ _ _ => rfl⟩
    · rw [nI_leI (by omega) (by omega)] at y
      have ck : (1 : Int32) + nI k = nI (1 + k) := nI_add 1 k
      rw [ck]
      refine lx_cell (k := 1 + k) hL (by omega) (fun yy hy _ => ?_)
      have ly : ∀ q, yy / 2 ^ q < 2 ^ 31 := fun q => Nat.lt_of_le_of_lt (Nat.div_le_self _ _) hy
      refine gi2_ix (fun i b e => ∃ v, i + v = 4 ∧ b = nI v ∧ e 0 = nI n ∧ e 1 = nI mo ∧ (∀ t, t < k → gro e t) ∧ ∀ j, j < v → -9 ≤ (e (3 + 6 * k + j)).toInt ∧ (e (3 + 6 * k + j)).toInt ≤ 9) ?_ 4 ⟨0, rfl, rfl, e0, e1, hr, fun t ht => absurd ht (Nat.not_lt_zero t)⟩
      rintro i Y b e ⟨v, hi, rfl, e0, e1, hr, hv⟩ hY
      unfold p_L_draws_57
      refine ⟨fun z => ?_, fun z => ?_⟩
      · rw [gl_4, nI_leI (by decide) (by omega)] at z
        have v4 : v = 4 := by omega
        subst v4
        have e20 : nI yy >>> ((20 : Int32) &&& 31) = nI (yy / 2 ^ 20) := gx_sh (k := 20) hy (by decide)
        have e8 : nI yy >>> ((8 : Int32) &&& 31) = nI (yy / 2 ^ 8) := gx_sh (k := 8) hy (by decide)
        rw [gx_w7, gx_w8, e20, e8, gx_a31 (ly 20), gx_a7 (ly 8), gx_5r _ (by omega), nI_clamp (by omega), nI_clamp (by omega)]
        refine ⟨vp_in_nI (by omega) (by decide), vp_in_nI (by omega) (by decide), hX (n - (k + 1)) _ _ (by omega) ⟨k + 1, by omega, by rw [gl_1, nI_add], by rw [pk_un (by omega), pk_un (by omega)]; exact e0, by rw [pk_un (by omega), pk_un (by omega)]; exact e1, fun t ht => ?_⟩⟩
        by_cases et : t = k
        · subst et
          refine ⟨fun j hj => ?_, ?_, yy / 2 ^ 8 % 8 % 5, by omega, pk_us⟩
          · rw [pk_un (by omega), pk_un (by omega)]
            exact hv j hj
          · rw [pk_un (by omega), pk_us]
            have m32 : yy / 2 ^ 20 % 32 < 32 := Nat.mod_lt _ (by decide)
            have := pk_sub_toInt (a := yy / 2 ^ 20 % 32) (b := 14) (by omega) (by decide)
            have e : (nI (yy / 2 ^ 20 % 32) - (14 : Int32)).toInt = ((yy / 2 ^ 20 % 32 : Nat) : Int) - 14 := this
            rw [e]
            omega
        · exact gro_cg (hr t (by omega)) (fun q q1 q2 => by rw [pk_un (by omega), pk_un (by omega)])
      · rw [gl_4, nI_leI (by decide) (by omega)] at z
        intro z9 hz9
        have s5 : (5 : Int32) * nI v = nI (5 * v) := by rw [gl_5, pk_mul]
        rw [s5, gx_sh hy (by omega), gx_a31 (ly _), gm_rem7 (by omega)] at hz9
        have m7 : yy / 2 ^ (5 * v) % 32 % 7 < 7 := Nat.mod_lt _ (by decide)
        have d7 := gm_d7 _ m7
        rw [← hz9] at d7
        have ix : (3 : Int32) + (6 : Int32) * nI k + nI v = nI (3 + 6 * k + v) := gx_m6j k v
        have put : ∀ s2 : Int32, -9 ≤ s2.toInt ∧ s2.toInt ≤ 9 → p_L_draws_133 e (nI v) ((3 : Int32) + (6 : Int32) * nI k + nI v) s2 Y := fun s2 hs2 => by
          unfold p_L_draws_133
          rw [ix, nI_clamp (by omega)]
          refine ⟨vp_in_nI (by omega) (by decide), hY (i - 1) _ _ (by omega) ⟨v + 1, by omega, by rw [gl_1, nI_add], by rw [pk_un (by omega)]; exact e0, by rw [pk_un (by omega)]; exact e1, fun t ht => gro_cg (hr t ht) (fun q q1 q2 => pk_un (by omega)), fun j hj => ?_⟩⟩
          by_cases ej : j = v
          · subst ej
            rw [pk_us]
            exact hs2
          · rw [pk_un (by omega)]
            exact hv j (by omega)
        have two : ∀ s : Int32, p_L_draws_116 e s (nI v) z9 ((3 : Int32) + (6 : Int32) * nI k + nI v) Y := fun s => by
          unfold p_L_draws_116 p_L_draws_132
          exact ⟨fun _ => put _ d7.1, fun _ => put _ d7.2⟩
        exact ⟨fun _ => ⟨fun _ => put 0 (by decide), fun _ => two _⟩, fun _ => two _⟩
  · rw [pk_un (by decide), pk_un (by decide), pk_us]
  · rw [pk_un (by decide), pk_us]
