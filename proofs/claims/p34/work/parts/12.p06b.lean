/-! is, turns, only -/
def gbt (s j : Nat) : Prop := s / 2 ^ j % 2 = 1
section KI
variable {c n mo u : Nat} {C : Nat → Nat → Int32} {cells past h w : Nat → Int32} {known size most draw changes seen : Int32}
theorem lx_is {Q : Int32 → Int32 → (Nat → Int32) → Prop} (hT : gTc n mo C cells size most) (hw : gLw n mo C w) (hQ : Q 1 seen h) : p_L_is known size most changes cells seen h w Q := by
  have hn := hT.1
  have hs := hT.2.2.2.1
  have hms := hT.2.2.2.2.1
  have no : ¬ ∃ k, k < n ∧ w (0 : Int32).toNatClampNeg = nI k := by
    rintro ⟨k, hk, e⟩
    rw [gcl_0, hw.1, nI_eq (by omega) (by omega)] at e
    omega
  unfold p_L_is
  refine k_count0 ⟨gx_in 0 rfl (by decide) (by decide), fun _ => k_count1 ⟨gx_in 1 rfl (by decide) (by decide), fun _ => ⟨gx_in 0 rfl (by decide) (by decide), k_of_no hT no ⟨fun _ => ?_, fun y => absurd rfl y⟩⟩, fun y => absurd ?_ y⟩, fun y => absurd ?_ y⟩
  · have last : p_L_is_146 size cells seen h w 1 Q := by
      unfold p_L_is_146
      refine ⟨g10, fun _ => k_hold (p := 1234) hT (by decide) (lx_hold (p := 1234) hw hn (by decide) ⟨fun _ => k_hold (p := 73) hT (by decide) (lx_hold (p := 73) hw hn (by decide) ⟨fun _ => hQ, fun y => absurd rfl y⟩), fun y => absurd rfl y⟩)⟩
    unfold p_L_is_40
    refine gi2_ix (fun i a b => ∃ k, i + k = n ∧ b = nI k ∧ a = 1) ?_ n ⟨0, rfl, rfl, rfl⟩
    rintro i X a b ⟨k, hi, rfl, rfl⟩ hX
    unfold p_L_is_43
    refine ⟨gx_in 0 rfl (by decide) (by decide), ?_⟩
    rw [gcl_0, hw.1]
    refine ⟨fun _ => last, fun y => ⟨g10, fun _ => ?_⟩⟩
    rw [nI_leI (by omega) (by omega)] at y
    have hk : k < n := by omega
    refine gi2_ix (fun j a b => ∃ t, j + t = 6 ∧ b = nI t ∧ a = 1) ?_ 6 ⟨0, rfl, rfl, rfl⟩
    rintro j Y a b ⟨t, hj, rfl, rfl⟩ hY
    have next : p_L_is_101 size cells w 1 (nI k) X := by
      unfold p_L_is_101
      have ep : (511 : Int32) * nI k + (37 : Int32) = nI (511 * k + 37) := by
        rw [show (511 : Int32) = nI 511 from rfl, show (37 : Int32) = nI 37 from rfl, pk_mul, nI_add]
      rw [ep]
      refine ⟨g10, fun _ => k_sum hT hk (by omega) (lx_sum hw hn hk (by omega) ⟨fun _ => ?_, fun y => absurd rfl y⟩)⟩
      unfold p_L_is_139
      exact hX (i - 1) _ _ (by omega) ⟨k + 1, by omega, by rw [gl_1, nI_add], rfl⟩
    unfold p_L_is_57
    refine ⟨fun _ => next, fun y => ⟨g10, fun _ => ?_⟩⟩
    rw [gl_6, nI_leI (by decide) (by omega)] at y
    have ht : t < 6 := by omega
    refine k_of hT hk ht ⟨gx_in _ (gx_m6j k t) (by omega) (by decide), ?_⟩
    rw [gx_cl _ (gx_m6j k t) (by omega), hw.2.2 k hk t ht]
    refine ⟨fun _ => ?_, fun y => absurd rfl y⟩
    unfold p_L_is_94
    exact hY (j - 1) _ _ (by omega) ⟨t + 1, by omega, by rw [gl_1, nI_add], rfl⟩
  · rw [gcl_1, hw.2.1, hms]
  · rw [gcl_0, hw.1, hs]
theorem gng_ng (C : Nat → Nat → Int32) (k : Nat) : gng (gng C k) k = C := by
  funext i
  unfold gng
  by_cases e : i = k
  · rw [if_pos e]
    subst e
    funext j
    rw [if_pos rfl]
    by_cases z : j < 5
    · rw [if_pos z, if_pos z, Int32.neg_neg]
    · rw [if_neg z, if_neg z]
  · rw [if_neg e, if_neg e]
theorem lx_turns {Q : Int32 → Int32 → Int32 → (Nat → Int32) → (Nat → Int32) → Int32 → (Nat → Int32) → Prop} (hT : gTc n mo C cells size most) (hw : gLw n mo C w) (hu : u ≤ 8) (hkn : known = nI u) (hz : gZ c n mo cells changes seen h) (hc : c + 100 < 2 ^ 31) (hQ : ∀ v c' cells' past' changes' seen' h', v ≤ 8 → c' ≤ c + 80 → gTc n mo C cells' size most → gZ c' n mo cells' changes' seen' h' → Q 1 (nI v) changes' cells' past' seen' h') : p_L_turns known size most draw changes cells past seen h w Q := by
  have hn := hT.1
  have N31 : ∀ D, gcnt (gfull D n mo) 4096 < 2 ^ 31 := fun D => Nat.lt_of_le_of_lt (gcnt_le _ _) (by decide)
  unfold p_L_turns
  refine k_count2 hT hz.2.2 (fun h1 g1 => ?_)
  refine gi8_ix (fun i a b kn ch ce pa se ho => ∃ k v c', i + k = n ∧ b = nI k ∧ a = 1 ∧ v ≤ 8 ∧ kn = nI v ∧ c' ≤ c + 10 * k ∧ gTc n mo C ce size most ∧ gZ c' n mo ce ch se ho) ?_ n ⟨0, u, c, rfl, rfl, rfl, hu, hkn, Nat.le_refl _, hT, hz.look g1⟩
  rintro i X a b kn ch ce pa se ho ⟨k, v, c', hi, rfl, rfl, hv8, rfl, hc', hT', hz'⟩ hX
  unfold p_L_turns_11
  refine ⟨gx_in 0 rfl (by decide) (by decide), ?_⟩
  rw [gcl_0, hw.1]
  have last : p_L_turns_76 (nI v) size most ch ce pa se ho w 1 Q := by
    unfold p_L_turns_76
    exact ⟨g10, fun _ => lx_is hT' hw ⟨g10, fun _ => hQ v c' ce pa ch se ho hv8 (by omega) hT' hz'⟩⟩
  refine ⟨fun _ => last, fun y => ⟨g10, fun _ => ?_⟩⟩
  rw [nI_leI (by omega) (by omega)] at y
  have hk : k < n := by omega
  refine k_turn hT' hv8 rfl hk (hz'.ne (by decide) (by omega)) (fun ce1 pa1 ho1 hT1 hv1 => ⟨fun y => absurd y (nI_pos (N31 _)), fun _ => ?_⟩)
  have hz1 := hz'.new (e := 5) hv1
  refine k_of (j := 4) hT1 hk (by decide) ⟨gx_in _ (gx_w7 k) (by omega) (by decide), ?_⟩
  rw [gx_cl _ (gx_w7 k) (by omega), hw.2.2 k hk 4 (by decide)]
  refine ⟨fun _ => ?_, fun y => absurd ?_ y⟩
  · refine k_turn hT1 (gup_le hv8) rfl hk (hz1.ne (by decide) (by omega)) (fun ce2 pa2 ho2 hT2 hv2 => ?_)
    have hz2 := hz1.new (e := 5) hv2
    rw [gng_ng] at hT2 ⊢
    refine ⟨fun _ => ?_, fun y => absurd rfl y⟩
    unfold p_L_turns_69
    exact hX (i - 1) _ _ _ _ _ _ _ _ (by omega) ⟨k + 1, gup (gup v), c' + 5 + 5, by omega, by rw [gl_1, nI_add], rfl, gup_le (gup_le hv8), rfl, by omega, hT2, hz2⟩
  · show gng C k k 4 = _
    unfold gng
    rw [if_pos rfl, if_pos (by decide), Int32.zero_sub]
theorem gm_dec {k : Nat} (h : k < 2 ^ 30) : (nI k + (-1 : Int32)).toInt = (k : Int) - 1 := by
  rw [show nI k + (-1 : Int32) = nI k - 1 from (Int32.sub_eq_add_neg _ _).symm]
  exact pk_sub_toInt (b := 1) h (by decide)
/-- those of a set alone are left -/
theorem lx_only {s : Nat} {Q : Int32 → Int32 → Int32 → Int32 → (Nat → Int32) → (Nat → Int32) → Int32 → (Nat → Int32) → Prop} (hT : gTc n mo C cells size most) (hw : gLw n mo C w) (hu : u ≤ 8) (hkn : known = nI u) (hz : gZ c n mo cells changes seen h) (hc : c + 100 < 2 ^ 31) (hs : s < 2 ^ n) (hQ : ∀ v c' n' C' changes' cells' past' seen' h' N, v ≤ 8 → c' ≤ c + 8 → gTc n' mo C' cells' (nI n') most → gZ c' n' mo cells' changes' seen' h' → N ≤ 4096 → (N = 0 ↔ gLN C n mo s = true) → Q (nI N) (nI v) (nI n') changes' cells' past' seen' h') : p_L_only known size most draw changes cells past seen h w (nI s) Q := by
  have hn := hT.1
  have hs31 : s < 2 ^ 31 := Nat.lt_of_lt_of_le hs (Nat.pow_le_pow_right (by decide) (by omega))
  unfold p_L_only
  refine ⟨gx_in 0 rfl (by decide) (by decide), fun z hz2 => ?_⟩
  rw [gcl_0, hw.1] at hz2
  have hzi : z.toInt = (n : Int) - 1 := by rw [hz2]; exact pk_sub_toInt (b := 1) (by omega) (by decide)
  refine gi7_ix (fun i a b kn sz ch ce pa => ∃ v c' n' C', b.toInt = (i : Int) - 1 ∧ i ≤ n ∧ i ≤ n' ∧ a = 1 ∧ v ≤ 8 ∧ kn = nI v ∧ sz = nI n' ∧ c' + i ≤ c + n ∧ gTc n' mo C' ce sz most ∧ gZ c' n' mo ce ch seen h ∧ (∀ t, t < i → C' t = C t) ∧ (∀ t, i ≤ t → t < n' → ∃ j, i ≤ j ∧ j < n ∧ gbt s j ∧ C' t = C j) ∧ ∀ j, i ≤ j → j < n → gbt s j → ∃ t, i ≤ t ∧ t < n' ∧ C' t = C j) ?_ n ⟨u, c, n, C, by omega, Nat.le_refl _, Nat.le_refl _, rfl, hu, hkn, hT.2.2.2.1, Nat.le_refl _, hT, hz, fun _ _ => rfl, fun t z1 z2 => by omega, fun t z1 z2 => by omega⟩
  rintro i X a b kn sz ch ce pa ⟨v, c', n', C', hb, hin, hin', rfl, hv8, rfl, rfl, hc', hT', hz', e1, e2, e3⟩ hX
  have hn' := hT'.1
  have z0 : (0 : Int32).toInt = 0 := rfl
  unfold p_L_only_9
  refine ⟨fun y => ?_, fun y => ⟨g10, fun _ => ?_⟩⟩
  · rw [Int32.lt_iff_toInt_lt, z0, hb] at y
    have hi0 : i = 0 := by omega
    subst hi0
    unfold p_L_only_49
    refine ⟨g10, fun _ => k_count2 hT' hz'.2.2 (fun h1 g1 => ?_)⟩
    refine hQ v c' n' C' ch ce pa _ _ _ hv8 (by omega) hT' (hz'.look g1) (gcnt_le _ _) ?_
    rw [gcnt_z, gLN_H hs]
    constructor
    · intro h q hq hbx z
      refine h q hq ((gfull_H hn').mpr ⟨hbx, fun t ht => ?_⟩)
      obtain ⟨j, -, hj, hbj, ec⟩ := e2 t (Nat.zero_le _) ht
      have := z j hj hbj
      unfold gH at this ⊢
      rw [ec]; exact this
    · intro h q hq hf
      obtain ⟨hbx, hall⟩ := (gfull_H hn').mp hf
      refine h q hq hbx (fun j hj hbj => ?_)
      obtain ⟨t, -, ht, ec⟩ := e3 j (Nat.zero_le _) hj hbj
      have := hall t ht
      unfold gH at this ⊢
      rw [← ec]; exact this
  · rw [Int32.lt_iff_toInt_lt, z0, hb] at y
    obtain ⟨k, rfl⟩ : ∃ k, i = k + 1 := ⟨i - 1, by omega⟩
    have hbk : b = nI k := by
      apply Int32.toInt_inj.mp
      rw [hb, nI_toInt (by omega)]
      omega
    subst hbk
    rw [gm_bit hs31 (by omega)]
    clear hb
    refine ⟨fun g => ?_, fun g => ?_⟩
    · rw [gl_1, nI_eq (by omega) (by decide)] at g
      change gbt s k at g
      unfold p_L_only_37 p_L_only_42
      refine hX k _ _ _ _ _ _ _ (Nat.lt_succ_self k) ⟨v, c', n', C', gm_dec (by omega), by omega, by omega, rfl, hv8, rfl, rfl, by omega, hT', hz', fun t ht => e1 t (by omega), fun t z1 z2 => ?_, fun j z1 z2 z3 => ?_⟩
      · by_cases e : t = k
        · subst e
          exact ⟨t, Nat.le_refl _, by omega, g, e1 t (by omega)⟩
        · obtain ⟨j, j1, j2, j3, j4⟩ := e2 t (by omega) z2
          exact ⟨j, by omega, j2, j3, j4⟩
      · by_cases e : j = k
        · subst e
          exact ⟨j, Nat.le_refl _, by omega, e1 j (by omega)⟩
        · obtain ⟨t, t1, t2, t3⟩ := e3 j (by omega) z2 z3
          exact ⟨t, by omega, t2, t3⟩
    · rw [gl_1, nI_eq (by omega) (by decide)] at g
      change ¬ gbt s k at g
      refine k_drop hT' hv8 rfl (k := k) (by omega) (fun ce1 pa1 hT1 => ⟨fun y => absurd y (nI_pos (by omega)), fun _ => ?_⟩)
      unfold p_L_only_37 p_L_only_42
      refine hX k _ _ _ _ _ _ _ (Nat.lt_succ_self k) ⟨gup v, c' + 1, n' - 1, gdrp C' k, gm_dec (by omega), by omega, by omega, rfl, gup_le hv8, rfl, rfl, by omega, hT1, hz'.up1 (by omega), fun t ht => ?_, fun t z1 z2 => ?_, fun j z1 z2 z3 => ?_⟩
      · unfold gdrp
        rw [if_pos ht]
        exact e1 t (by omega)
      · unfold gdrp
        rw [if_neg (by omega)]
        obtain ⟨j, j1, j2, j3, j4⟩ := e2 (t + 1) (by omega) (by omega)
        exact ⟨j, by omega, j2, j3, j4⟩
      · by_cases e : j = k
        · rw [e] at z3; exact absurd z3 g
        · obtain ⟨t, t1, t2, t3⟩ := e3 j (by omega) z2 z3
          refine ⟨t - 1, by omega, by omega, ?_⟩
          unfold gdrp
          rw [if_neg (by omega), show t - 1 + 1 = t by omega]
          exact t3
end KI
