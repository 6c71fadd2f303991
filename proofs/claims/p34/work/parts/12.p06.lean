/-! which constraints hold, as bits -/
theorem gmask_bit (C : Nat → Nat → Int32) (p i : Nat) : ∀ n, i < n → (gmask C n p / 2 ^ i % 2 = 1 ↔ ghold (C i 5) (gsum (C i) p) = true) := by
  intro n
  induction n with
  | zero => intro z; exact absurd z (Nat.not_lt_zero i)
  | succ n ih =>
    intro z
    have hl := gmask_lt C n p
    show (gmask C n p + _) / 2 ^ i % 2 = 1 ↔ _
    by_cases e : i = n
    · subst e
      by_cases g : ghold (C i 5) (gsum (C i) p) = true
      · rw [if_pos g, Nat.add_div_right _ (Nat.two_pow_pos i), Nat.div_eq_of_lt hl]
        exact ⟨fun _ => g, fun _ => rfl⟩
      · rw [if_neg g, Nat.add_zero, Nat.div_eq_of_lt hl]
        exact ⟨fun y => absurd y (by decide), fun y => absurd y g⟩
    · have hin : i < n := by omega
      rw [← ih hin]
      by_cases g : ghold (C n 5) (gsum (C n) p) = true
      · rw [if_pos g]
        have e2 : 2 ^ n = 2 ^ i * (2 * 2 ^ (n - i - 1)) := by
          rw [← Nat.mul_assoc, ← Nat.pow_succ, ← Nat.pow_add]
          congr 1
          omega
        rw [e2, Nat.add_mul_div_left _ _ (Nat.two_pow_pos i), Nat.add_mul_mod_self_left]
      · rw [if_neg g, Nat.add_zero]
theorem gm_allbit : ∀ n, n ≤ 8 → ∀ m, m < 2 ^ n → (m = 2 ^ n - 1 ↔ ∀ i, i < n → m / 2 ^ i % 2 = 1) := by decide +kernel
theorem gm_spbit : ∀ n, n ≤ 8 → ∀ k, k < n → ∀ m, m < 2 ^ n → ((nI m ||| ((1 : Int32) <<< (nI k &&& 31)) = nI (2 ^ n - 1)) ↔ ∀ i, i < n → i ≠ k → m / 2 ^ i % 2 = 1) := by decide +kernel
def gH (C : Nat → Nat → Int32) (i p : Nat) : Prop := ghold (C i 5) (gsum (C i) p) = true
theorem gfull_H {C : Nat → Nat → Int32} {n mo p : Nat} (hn : n ≤ 8) : gfull C n mo p = true ↔ gbox mo p = true ∧ ∀ i, i < n → gH C i p := by
  unfold gfull
  rw [Bool.and_eq_true, decide_eq_true_eq, gm_allbit n hn _ (gmask_lt C n p)]
  exact ⟨fun ⟨a, b⟩ => ⟨a, fun i hi => (gmask_bit C p i n hi).mp (b i hi)⟩, fun ⟨a, b⟩ => ⟨a, fun i hi => (gmask_bit C p i n hi).mpr (b i hi)⟩⟩
theorem gsp_H {C : Nat → Nat → Int32} {n mo k p : Nat} (hn : n ≤ 8) (hk : k < n) : gsp C n mo k p = true ↔ gbox mo p = true ∧ ∀ i, i < n → i ≠ k → gH C i p := by
  unfold gsp
  rw [Bool.and_eq_true, decide_eq_true_eq, gm_spbit n hn k hk _ (gmask_lt C n p)]
  exact ⟨fun ⟨a, b⟩ => ⟨a, fun i hi hik => (gmask_bit C p i n hi).mp (b i hi hik)⟩, fun ⟨a, b⟩ => ⟨a, fun i hi hik => (gmask_bit C p i n hi).mpr (b i hi hik)⟩⟩
theorem gb_iff {s i : Nat} : s / 2 ^ i % 2 = 1 ↔ s.testBit i = true := by rw [Nat.testBit_eq_decide_div_mod_eq, decide_eq_true_eq]
theorem gand_iff {m s n : Nat} (hs : s < 2 ^ n) : m &&& s = s ↔ ∀ i, i < n → s / 2 ^ i % 2 = 1 → m / 2 ^ i % 2 = 1 := by
  constructor
  · intro h i _ hi
    rw [gb_iff] at hi ⊢
    rw [← h, Nat.testBit_and, Bool.and_eq_true] at hi
    exact hi.1
  · intro h
    apply Nat.eq_of_testBit_eq
    intro i
    rw [Nat.testBit_and]
    by_cases hb : s.testBit i = true
    · have hi : i < n := by
        rcases Nat.lt_or_ge i n with z | z
        · exact z
        · rw [Nat.testBit_lt_two_pow (Nat.lt_of_lt_of_le hs (Nat.pow_le_pow_right (by decide) z))] at hb
          exact absurd hb (by decide)
      have := gb_iff.mp (h i hi (gb_iff.mpr hb))
      rw [this, hb]; rfl
    · rw [Bool.not_eq_true] at hb
      rw [hb, Bool.and_false]
theorem gLN_H {C : Nat → Nat → Int32} {n mo s : Nat} (hs : s < 2 ^ n) : gLN C n mo s = true ↔ ∀ q, q < 4096 → gbox mo q = true → ¬ ∀ i, i < n → s / 2 ^ i % 2 = 1 → gH C i q := by
  rw [gLN_iff]
  constructor
  · intro h q hq hb z
    exact h q hq hb ((gand_iff hs).mpr (fun i hi y => (gmask_bit C q i n hi).mpr (z i hi y)))
  · intro h q hq hb z
    exact h q hq hb (fun i hi y => (gmask_bit C q i n hi).mp ((gand_iff hs).mp z i hi y))
theorem gcnt_cg {f g : Nat → Bool} {N : Nat} (h : ∀ q, q < N → (f q = true ↔ g q = true)) : gcnt f N = gcnt g N := by
  induction N with
  | zero => rfl
  | succ N ih =>
    have e := ih (fun q hq => h q (by omega))
    by_cases z : f N = true
    · rw [gcnt_s z, gcnt_s ((h N (by omega)).mp z), e]
    · rw [gcnt_n z, gcnt_n (fun y => z ((h N (by omega)).mpr y)), e]
theorem gcnt_sub {f g : Nat → Bool} {N : Nat} (h : ∀ q, q < N → f q = true → g q = true) : gcnt f N ≤ gcnt g N := by
  induction N with
  | zero => exact Nat.le_refl _
  | succ N ih =>
    have e := ih (fun q hq => h q (by omega))
    by_cases z : f N = true
    · rw [gcnt_s z, gcnt_s (h N (by omega) z)]; omega
    · rw [gcnt_n z]
      by_cases y : g N = true
      · rw [gcnt_s y]; omega
      · rw [gcnt_n y]; exact e
theorem gfull_drp {C : Nat → Nat → Int32} {n mo k : Nat} (hn : n ≤ 8) (hk : k < n) (q : Nat) : gfull (gdrp C k) (n - 1) mo q = true ↔ gsp C n mo k q = true := by
  rw [gfull_H (by omega), gsp_H hn hk]
  constructor
  · rintro ⟨a, b⟩
    refine ⟨a, fun i hi hik => ?_⟩
    by_cases e : i < k
    · have := b i (by omega)
      unfold gH gdrp at this
      rw [if_pos e] at this
      exact this
    · have := b (i - 1) (by omega)
      unfold gH gdrp at this
      rw [if_neg (by omega), show i - 1 + 1 = i by omega] at this
      exact this
  · rintro ⟨a, b⟩
    refine ⟨a, fun i hi => ?_⟩
    unfold gH gdrp
    by_cases e : i < k
    · rw [if_pos e]; exact b i (by omega) (by omega)
    · rw [if_neg e]; exact b (i + 1) (by omega) (by omega)
/-! what the search remembers -/
def gZ (c n mo : Nat) (cells : Nat → Int32) (changes seen : Int32) (h : Nat → Int32) : Prop := changes = nI c ∧ (seen = -1 ∨ ∃ c', c' ≤ c ∧ seen = nI c') ∧ (seen = changes → gVh (fun k j => cells (6 * k + j)) n mo h)
section KZ
variable {c n mo : Nat} {cells h : Nat → Int32} {changes seen : Int32}
theorem gZ.ne {e : Nat} (z : gZ c n mo cells changes seen h) (h1 : 1 ≤ e) (h2 : c + e < 2 ^ 31) : ¬ seen = changes + nI e := by
  obtain ⟨rfl, z2, -⟩ := z
  intro y
  rw [nI_add] at y
  rcases z2 with z2 | ⟨c', z2, z3⟩
  · rw [z2] at y
    have := congrArg Int32.toInt y
    rw [nI_toInt h2, show (-1 : Int32).toInt = -1 from rfl] at this
    omega
  · rw [z3, nI_eq (by omega) h2] at y
    omega
theorem gZ.up {e n' mo' : Nat} {cells' : Nat → Int32} (z : gZ c n mo cells changes seen h) (h1 : 1 ≤ e) (h2 : c + e < 2 ^ 31) : gZ (c + e) n' mo' cells' (changes + nI e) seen h := by
  have hne := z.ne h1 h2
  obtain ⟨rfl, z2, -⟩ := z
  refine ⟨nI_add _ _, ?_, fun y => absurd y hne⟩
  rcases z2 with z2 | ⟨c', z2, z3⟩
  · exact Or.inl z2
  · exact Or.inr ⟨c', by omega, z3⟩
theorem gZ.up1 {n' mo' : Nat} {cells' : Nat → Int32} (z : gZ c n mo cells changes seen h) (h2 : c + 1 < 2 ^ 31) : gZ (c + 1) n' mo' cells' (changes + 1) seen h := z.up (e := 1) (Nat.le_refl _) h2
theorem gZ.new {e n' mo' : Nat} {cells' h' : Nat → Int32} (z : gZ c n mo cells changes seen h) (hv : gVh (fun k j => cells' (6 * k + j)) n' mo' h') : gZ (c + e) n' mo' cells' (changes + nI e) (changes + nI e) h' := by
  obtain ⟨rfl, -, -⟩ := z
  exact ⟨nI_add _ _, Or.inr ⟨c + e, Nat.le_refl _, nI_add _ _⟩, fun _ => hv⟩
theorem gZ.look {h' : Nat → Int32} (z : gZ c n mo cells changes seen h) (hv : gVh (fun k j => cells (6 * k + j)) n mo h') : gZ c n mo cells changes changes h' := by
  obtain ⟨rfl, -, -⟩ := z
  exact ⟨rfl, Or.inr ⟨c, Nat.le_refl _, rfl⟩, fun _ => hv⟩
end KZ
/-! is, turns, only -/
section KI
variable {c n mo u : Nat} {C : Nat → Nat → Int32} {cells past h w : Nat → Int32} {known size most draw changes seen : Int32}
theorem lx_is {Q : Int32 → Int32 → (Nat → Int32) → Prop} (hT : gTc n mo C cells size most) (hw : gLw n mo C w) (hQ : Q 1 seen h) : p_L_is known size most changes cells seen h w Q := by
  have hn := hT.1
  have hs := hT.2.2.2.1
  have hms := hT.2.2.2.2.1
  have no : ¬ ∃ k, k < n ∧ w (0 : Int32).toNatClampNeg = nI k := by
    rintro ⟨k, hk, e⟩
    rw [gcl_0, hw.1, nI_eq (by omega) (by omega)] at e
    omega
  unfold p_L_is
  refine k_count0 ⟨gx_in 0 rfl (by decide) (by decide), fun _ => k_count1 ⟨gx_in 1 rfl (by decide) (by decide), fun _ => ⟨gx_in 0 rfl (by decide) (by decide), k_of_no hT no ⟨fun _ => ?_, fun y => absurd rfl y⟩⟩, fun y => absurd ?_ y⟩, fun y => absurd ?_ y⟩
  · have last : p_L_is_146 size cells seen h w 1 Q := by
      unfold p_L_is_146
      refine ⟨g10, fun _ => k_hold (p := 1234) hT (by decide) (lx_hold (p := 1234) hw hn (by decide) ⟨fun _ => k_hold (p := 73) hT (by decide) (lx_hold (p := 73) hw hn (by decide) ⟨fun _ => hQ, fun y => absurd rfl y⟩), fun y => absurd rfl y⟩)⟩
    unfold p_L_is_40
    refine gi2_ix (fun i a b => ∃ k, i + k = n ∧ b = nI k ∧ a = 1) ?_ n ⟨0, rfl, rfl, rfl⟩
    rintro i X a b ⟨k, hi, rfl, rfl⟩ hX
    unfold p_L_is_43
    refine ⟨gx_in 0 rfl (by decide) (by decide), ?_⟩
    rw [gcl_0, hw.1]
    refine ⟨fun _ => last, fun y => ⟨g10, fun _ => ?_⟩⟩
    rw [nI_leI (by omega) (by omega)] at y
    have hk : k < n := by omega
    refine gi2_ix (fun j a b => ∃ t, j + t = 6 ∧ b = nI t ∧ a = 1) ?_ 6 ⟨0, rfl, rfl, rfl⟩
    rintro j Y a b ⟨t, hj, rfl, rfl⟩ hY
    have next : p_L_is_101 size cells w 1 (nI k) X := by
      unfold p_L_is_101
      have ep : (511 : Int32) * nI k + (37 : Int32) = nI (511 * k + 37) := by
        rw [show (511 : Int32) = nI 511 from rfl, show (37 : Int32) = nI 37 from rfl, pk_mul, nI_add]
      rw [ep]
      refine ⟨g10, fun _ => k_sum hT hk (by omega) (lx_sum hw hn hk (by omega) ⟨fun _ => ?_, fun y => absurd rfl y⟩)⟩
      unfold p_L_is_139
      exact hX (i - 1) _ _ (by omega) ⟨k + 1, by omega, by rw [gl_1, nI_add], rfl⟩
    unfold p_L_is_57
    refine ⟨fun _ => next, fun y => ⟨g10, fun _ => ?_⟩⟩
    rw [gl_6, nI_leI (by decide) (by omega)] at y
    have ht : t < 6 := by omega
    refine k_of hT hk ht ⟨gx_in _ (gx_m6j k t) (by omega) (by decide), ?_⟩
    rw [gx_cl _ (gx_m6j k t) (by omega), hw.2.2 k hk t ht]
    refine ⟨fun _ => ?_, fun y => absurd rfl y⟩
    unfold p_L_is_94
    exact hY (j - 1) _ _ (by omega) ⟨t + 1, by omega, by rw [gl_1, nI_add], rfl⟩
  · rw [gcl_1, hw.2.1, hms]
  · rw [gcl_0, hw.1, hs]
theorem gng_ng (C : Nat → Nat → Int32) (k : Nat) : gng (gng C k) k = C := by
  funext i
  unfold gng
  by_cases e : i = k
  · rw [if_pos e]
    subst e
    funext j
    rw [if_pos rfl]
    by_cases z : j < 5
    · rw [if_pos z, if_pos z, Int32.neg_neg]
    · rw [if_neg z, if_neg z]
  · rw [if_neg e, if_neg e]
theorem lx_turns {Q : Int32 → Int32 → Int32 → (Nat → Int32) → (Nat → Int32) → Int32 → (Nat → Int32) → Prop} (hT : gTc n mo C cells size most) (hw : gLw n mo C w) (hu : u ≤ 8) (hkn : known = nI u) (hz : gZ c n mo cells changes seen h) (hc : c + 100 < 2 ^ 31) (hQ : ∀ v c' cells' past' changes' seen' h', v ≤ 8 → c' ≤ c + 80 → gTc n mo C cells' size most → gZ c' n mo cells' changes' seen' h' → Q 1 (nI v) changes' cells' past' seen' h') : p_L_turns known size most draw changes cells past seen h w Q := by
  have hn := hT.1
  have N31 : ∀ D, gcnt (gfull D n mo) 4096 < 2 ^ 31 := fun D => Nat.lt_of_le_of_lt (gcnt_le _ _) (by decide)
  unfold p_L_turns
  refine k_count2 hT hz.2.2 (fun h1 g1 => ?_)
  refine gi8_ix (fun i a b kn ch ce pa se ho => ∃ k v c', i + k = n ∧ b = nI k ∧ a = 1 ∧ v ≤ 8 ∧ kn = nI v ∧ c' ≤ c + 10 * k ∧ gTc n mo C ce size most ∧ gZ c' n mo ce ch se ho) ?_ n ⟨0, u, c, rfl, rfl, rfl, hu, hkn, Nat.le_refl _, hT, hz.look g1⟩
  rintro i X a b kn ch ce pa se ho ⟨k, v, c', hi, rfl, rfl, hv8, rfl, hc', hT', hz'⟩ hX
  unfold p_L_turns_11
  refine ⟨gx_in 0 rfl (by decide) (by decide), ?_⟩
  rw [gcl_0, hw.1]
  have last : p_L_turns_76 (nI v) size most ch ce pa se ho w 1 Q := by
    unfold p_L_turns_76
    exact ⟨g10, fun _ => lx_is hT' hw ⟨g10, fun _ => hQ v c' ce pa ch se ho hv8 (by omega) hT' hz'⟩⟩
  refine ⟨fun _ => last, fun y => ⟨g10, fun _ => ?_⟩⟩
  rw [nI_leI (by omega) (by omega)] at y
  have hk : k < n := by omega
  refine k_turn hT' hv8 rfl hk (hz'.ne (by decide) (by omega)) (fun ce1 pa1 ho1 hT1 hv1 => ⟨fun y => absurd y (nI_pos (N31 _)), fun _ => ?_⟩)
  have hz1 := hz'.new (e := 5) hv1
  refine k_of (j := 4) hT1 hk (by decide) ⟨gx_in _ (gx_w7 k) (by omega) (by decide), ?_⟩
  rw [gx_cl _ (gx_w7 k) (by omega), hw.2.2 k hk 4 (by decide)]
  refine ⟨fun _ => ?_, fun y => absurd ?_ y⟩
  · refine k_turn hT1 (gup_le hv8) rfl hk (hz1.ne (by decide) (by omega)) (fun ce2 pa2 ho2 hT2 hv2 => ?_)
    have hz2 := hz1.new (e := 5) hv2
    rw [gng_ng] at hT2 ⊢
    refine ⟨fun _ => ?_, fun y => absurd rfl y⟩
    unfold p_L_turns_69
    exact hX (i - 1) _ _ _ _ _ _ _ _ (by omega) ⟨k + 1, gup (gup v), c' + 5 + 5, by omega, by rw [gl_1, nI_add], rfl, gup_le (gup_le hv8), rfl, by omega, hT2, hz2⟩
  · show gng C k k 4 = _
    unfold gng
    rw [if_pos rfl, if_pos (by decide), Int32.zero_sub]
/-- those of a set alone are left -/
theorem lx_only {s : Nat} {Q : Int32 → Int32 → Int32 → Int32 → (Nat → Int32) → (Nat → Int32) → Int32 → (Nat → Int32) → Prop} (hT : gTc n mo C cells size most) (hw : gLw n mo C w) (hu : u ≤ 8) (hkn : known = nI u) (hz : gZ c n mo cells changes seen h) (hc : c + 100 < 2 ^ 31) (hs : s < 2 ^ n) (hQ : ∀ v c' n' C' changes' cells' past' seen' h' N, v ≤ 8 → c' ≤ c + 8 → gTc n' mo C' cells' (nI n') most → gZ c' n' mo cells' changes' seen' h' → N ≤ 4096 → (N = 0 ↔ gLN C n mo s = true) → Q (nI N) (nI v) (nI n') changes' cells' past' seen' h') : p_L_only known size most draw changes cells past seen h w (nI s) Q := by
  have hn := hT.1
  have hs31 : s < 2 ^ 31 := Nat.lt_of_lt_of_le hs (Nat.pow_le_pow_right (by decide) (by omega))
  unfold p_L_only
  refine ⟨gx_in 0 rfl (by decide) (by decide), fun z hz2 => ?_⟩
  rw [gcl_0, hw.1] at hz2
  have hzi : z.toInt = (n : Int) - 1 := by rw [hz2]; exact pk_sub_toInt (b := 1) (by omega) (by decide)
  refine gi7_ix (fun i a b kn sz ch ce pa => ∃ v c' n' C', b.toInt = (i : Int) - 1 ∧ i ≤ n ∧ i ≤ n' ∧ a = 1 ∧ v ≤ 8 ∧ kn = nI v ∧ sz = nI n' ∧ c' + i ≤ c + n ∧ gTc n' mo C' ce sz most ∧ gZ c' n' mo ce ch seen h ∧ (∀ t, t < i → C' t = C t) ∧ (∀ t, i ≤ t → t < n' → ∃ j, i ≤ j ∧ j < n ∧ s / 2 ^ j % 2 = 1 ∧ C' t = C j) ∧ ∀ j, i ≤ j → j < n → s / 2 ^ j % 2 = 1 → ∃ t, i ≤ t ∧ t < n' ∧ C' t = C j) ?_ n ⟨u, c, n, C, by omega, Nat.le_refl _, Nat.le_refl _, rfl, hu, hkn, hT.2.2.2.1, Nat.le_refl _, hT, hz, fun _ _ => rfl, fun t z1 z2 => by omega, fun t z1 z2 => by omega⟩
  rintro i X a b kn sz ch ce pa ⟨v, c', n', C', hb, hin, hin', rfl, hv8, rfl, rfl, hc', hT', hz', e1, e2, e3⟩ hX
  have hn' := hT'.1
  have z0 : (0 : Int32).toInt = 0 := rfl
  unfold p_L_only_9
  refine ⟨fun y => ?_, fun y => ⟨g10, fun _ => ?_⟩⟩
  · rw [Int32.lt_iff_toInt_lt, z0, hb] at y
    have hi0 : i = 0 := by omega
    subst hi0
    unfold p_L_only_49
    refine ⟨g10, fun _ => k_count2 hT' hz'.2.2 (fun h1 g1 => ?_)⟩
    refine hQ v c' n' C' ch ce pa _ _ _ hv8 (by omega) hT' (hz'.look g1) (gcnt_le _ _) ?_
    rw [gcnt_z, gLN_H hs]
    constructor
    · intro h q hq hbx z
      refine h q hq ((gfull_H hn').mpr ⟨hbx, fun t ht => ?_⟩)
      obtain ⟨j, -, hj, hbj, ec⟩ := e2 t (Nat.zero_le _) ht
      have := z j hj hbj
      unfold gH at this ⊢
      rw [ec]; exact this
    · intro h q hq hf
      obtain ⟨hbx, hall⟩ := (gfull_H hn').mp hf
      refine h q hq hbx (fun j hj hbj => ?_)
      obtain ⟨t, -, ht, ec⟩ := e3 j (Nat.zero_le _) hj hbj
      have := hall t ht
      unfold gH at this ⊢
      rw [← ec]; exact this
  · rw [Int32.lt_iff_toInt_lt, z0, hb] at y
    obtain ⟨k, rfl⟩ : ∃ k, i = k + 1 := ⟨i - 1, by omega⟩
    have hbk : b = nI k := by
      apply Int32.toInt_inj.mp
      rw [hb, nI_toInt (by omega)]
      omega
    subst hbk
    rw [gm_bit hs31 (by omega)]
    have ek : nI k + (-1 : Int32) = nI k - 1 := (Int32.sub_eq_add_neg _ _).symm
    have ekT : (nI k + (-1 : Int32)).toInt = (k : Int) - 1 := by rw [ek]; exact pk_sub_toInt (b := 1) (by omega) (by decide)
    refine ⟨fun g => ?_, fun g => ?_⟩
    · rw [gl_1, nI_eq (by omega) (by decide)] at g
      unfold p_L_only_37 p_L_only_42
      refine hX k _ _ _ _ _ _ _ (Nat.lt_succ_self k) ⟨v, c', n', C', ekT, by omega, by omega, rfl, hv8, rfl, rfl, by omega, hT', hz', fun t ht => e1 t (by omega), fun t z1 z2 => ?_, fun j z1 z2 z3 => ?_⟩
      · by_cases e : t = k
        · subst e
          exact ⟨t, Nat.le_refl _, by omega, g, e1 t (by omega)⟩
        · obtain ⟨j, j1, j2, j3, j4⟩ := e2 t (by omega) z2
          exact ⟨j, by omega, j2, j3, j4⟩
      · by_cases e : j = k
        · subst e
          exact ⟨j, Nat.le_refl _, by omega, e1 j (by omega)⟩
        · obtain ⟨t, t1, t2, t3⟩ := e3 j (by omega) z2 z3
          exact ⟨t, by omega, t2, t3⟩
    · rw [gl_1, nI_eq (by omega) (by decide)] at g
      refine k_drop hT' hv8 rfl (k := k) (by omega) (fun ce1 pa1 hT1 => ⟨fun y => absurd y (nI_pos (by omega)), fun _ => ?_⟩)
      unfold p_L_only_37 p_L_only_42
      refine hX k _ _ _ _ _ _ _ (Nat.lt_succ_self k) ⟨gup v, c' + 1, n' - 1, gdrp C' k, ekT, by omega, by omega, rfl, gup_le hv8, rfl, rfl, by omega, hT1, hz'.up1 (by omega), fun t ht => ?_, fun t z1 z2 => ?_, fun j z1 z2 z3 => ?_⟩
      · unfold gdrp
        rw [if_pos ht]
        exact e1 t (by omega)
      · unfold gdrp
        rw [if_neg (by omega)]
        obtain ⟨j, j1, j2, j3, j4⟩ := e2 (t + 1) (by omega) (by omega)
        exact ⟨j, by omega, j2, j3, j4⟩
      · by_cases e : j = k
        · rw [e] at z3; exact absurd z3 g
        · obtain ⟨t, t1, t2, t3⟩ := e3 j (by omega) z2 z3
          refine ⟨t - 1, by omega, by omega, ?_⟩
          unfold gdrp
          rw [if_neg (by omega), show t - 1 + 1 = t by omega]
          exact t3
end KI
