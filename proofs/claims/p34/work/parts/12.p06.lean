/-! which constraints hold, as bits -/
theorem gmask_bit (C : Nat → Nat → Int32) (p i : Nat) : ∀ n, i < n → (gmask C n p / 2 ^ i % 2 = 1 ↔ ghold (C i 5) (gsum (C i) p) = true) := by
  intro n
  induction n with
  | zero => intro z; exact absurd z (Nat.not_lt_zero i)
  | succ n ih =>
    intro z
    have hl := gmask_lt C n p
    show (gmask C n p + _) / 2 ^ i % 2 = 1 ↔ _
    by_cases e : i = n
    · subst e
      by_cases g : ghold (C i 5) (gsum (C i) p) = true
      · rw [if_pos g, Nat.add_div_right _ (Nat.two_pow_pos i), Nat.div_eq_of_lt hl]
        exact ⟨fun _ => g, fun _ => rfl⟩
      · rw [if_neg g, Nat.add_zero, Nat.div_eq_of_lt hl]
        exact ⟨fun y => absurd y (by decide), fun y => absurd y g⟩
    · have hin : i < n := by omega
      rw [← ih hin]
      by_cases g : ghold (C n 5) (gsum (C n) p) = true
      · rw [if_pos g]
        have e2 : 2 ^ n = 2 ^ i * (2 * 2 ^ (n - i - 1)) := by
          rw [← Nat.mul_assoc, ← Nat.pow_succ, ← Nat.pow_add]
          congr 1
          omega
        rw [e2, Nat.add_mul_div_left _ _ (Nat.two_pow_pos i), Nat.add_mul_mod_self_left]
      · rw [if_neg g, Nat.add_zero]
theorem gb_iff {s i : Nat} : s / 2 ^ i % 2 = 1 ↔ s.testBit i = true := by rw [Nat.testBit_eq_decide_div_mod_eq, decide_eq_true_eq]
theorem gm_allbit {n m : Nat} (hm : m < 2 ^ n) : m = 2 ^ n - 1 ↔ ∀ i, i < n → m / 2 ^ i % 2 = 1 := by
  constructor
  · intro e i hi
    rw [gb_iff, e, Nat.testBit_two_pow_sub_one, decide_eq_true hi]
  · intro h
    apply Nat.eq_of_testBit_eq
    intro i
    rw [Nat.testBit_two_pow_sub_one]
    by_cases hi : i < n
    · rw [decide_eq_true hi]
      exact gb_iff.mp (h i hi)
    · rw [decide_eq_false hi]
      exact Nat.testBit_lt_two_pow (Nat.lt_of_lt_of_le hm (Nat.pow_le_pow_right (by decide) (by omega)))
theorem gm_spbit {n k m : Nat} (hn : n ≤ 8) (hk : k < n) (hm : m < 2 ^ n) : (nI m ||| ((1 : Int32) <<< (nI k &&& 31)) = nI (2 ^ n - 1)) ↔ ∀ i, i < n → i ≠ k → m / 2 ^ i % 2 = 1 := by
  have hp := gm_p2 n hn
  have hor : m ||| 2 ^ k < 2 ^ n := Nat.or_lt_two_pow hm (Nat.pow_lt_pow_right (by decide) hk)
  rw [gm_1sl k (by omega), gm_orN, nI_eq (by omega) (by omega), gm_allbit hor]
  constructor
  · intro h i hi hik
    have := gb_iff.mp (h i hi)
    rw [Nat.testBit_or, Nat.testBit_two_pow, Bool.or_eq_true, decide_eq_true_eq] at this
    rcases this with y | y
    · exact gb_iff.mpr y
    · exact absurd y.symm hik
  · intro h i hi
    rw [gb_iff, Nat.testBit_or, Nat.testBit_two_pow, Bool.or_eq_true, decide_eq_true_eq]
    by_cases e : k = i
    · exact Or.inr e
    · exact Or.inl (gb_iff.mp (h i hi (fun y => e y.symm)))
def gH (C : Nat → Nat → Int32) (i p : Nat) : Prop := ghold (C i 5) (gsum (C i) p) = true
theorem gfull_H {C : Nat → Nat → Int32} {n mo p : Nat} (hn : n ≤ 8) : gfull C n mo p = true ↔ gbox mo p = true ∧ ∀ i, i < n → gH C i p := by
  unfold gfull
  rw [Bool.and_eq_true, decide_eq_true_eq, gm_allbit (gmask_lt C n p)]
  exact ⟨fun ⟨a, b⟩ => ⟨a, fun i hi => (gmask_bit C p i n hi).mp (b i hi)⟩, fun ⟨a, b⟩ => ⟨a, fun i hi => (gmask_bit C p i n hi).mpr (b i hi)⟩⟩
theorem gsp_H {C : Nat → Nat → Int32} {n mo k p : Nat} (hn : n ≤ 8) (hk : k < n) : gsp C n mo k p = true ↔ gbox mo p = true ∧ ∀ i, i < n → i ≠ k → gH C i p := by
  unfold gsp
  rw [Bool.and_eq_true, decide_eq_true_eq, gm_spbit hn hk (gmask_lt C n p)]
  exact ⟨fun ⟨a, b⟩ => ⟨a, fun i hi hik => (gmask_bit C p i n hi).mp (b i hi hik)⟩, fun ⟨a, b⟩ => ⟨a, fun i hi hik => (gmask_bit C p i n hi).mpr (b i hi hik)⟩⟩
theorem gand_iff {m s n : Nat} (hs : s < 2 ^ n) : m &&& s = s ↔ ∀ i, i < n → s / 2 ^ i % 2 = 1 → m / 2 ^ i % 2 = 1 := by
  constructor
  · intro h i _ hi
    rw [gb_iff] at hi ⊢
    rw [← h, Nat.testBit_and, Bool.and_eq_true] at hi
    exact hi.1
  · intro h
    apply Nat.eq_of_testBit_eq
    intro i
    rw [Nat.testBit_and]
    by_cases hb : s.testBit i = true
    · have hi : i < n := by
        rcases Nat.lt_or_ge i n with z | z
        · exact z
        · rw [Nat.testBit_lt_two_pow (Nat.lt_of_lt_of_le hs (Nat.pow_le_pow_right (by decide) z))] at hb
          exact absurd hb (by decide)
      have := gb_iff.mp (h i hi (gb_iff.mpr hb))
      rw [this, hb]; rfl
    · rw [Bool.not_eq_true] at hb
      rw [hb, Bool.and_false]
theorem gLN_H {C : Nat → Nat → Int32} {n mo s : Nat} (hs : s < 2 ^ n) : gLN C n mo s = true ↔ ∀ q, q < 4096 → gbox mo q = true → ¬ ∀ i, i < n → s / 2 ^ i % 2 = 1 → gH C i q := by
  rw [gLN_iff]
  constructor
  · intro h q hq hb z
    exact h q hq hb ((gand_iff hs).mpr (fun i hi y => (gmask_bit C q i n hi).mpr (z i hi y)))
  · intro h q hq hb z
    exact h q hq hb (fun i hi y => (gmask_bit C q i n hi).mp ((gand_iff hs).mp z i hi y))
theorem gcnt_cg {f g : Nat → Bool} {N : Nat} (h : ∀ q, q < N → (f q = true ↔ g q = true)) : gcnt f N = gcnt g N := by
  induction N with
  | zero => rfl
  | succ N ih =>
    have e := ih (fun q hq => h q (by omega))
    by_cases z : f N = true
    · rw [gcnt_s z, gcnt_s ((h N (by omega)).mp z), e]
    · rw [gcnt_n z, gcnt_n (fun y => z ((h N (by omega)).mpr y)), e]
theorem gcnt_sub {f g : Nat → Bool} {N : Nat} (h : ∀ q, q < N → f q = true → g q = true) : gcnt f N ≤ gcnt g N := by
  induction N with
  | zero => exact Nat.le_refl _
  | succ N ih =>
    have e := ih (fun q hq => h q (by omega))
    by_cases z : f N = true
    · rw [gcnt_s z, gcnt_s (h N (by omega) z)]; omega
    · rw [gcnt_n z]
      by_cases y : g N = true
      · rw [gcnt_s y]; omega
      · rw [gcnt_n y]; exact e
theorem gfull_drp {C : Nat → Nat → Int32} {n mo k : Nat} (hn : n ≤ 8) (hk : k < n) (q : Nat) : gfull (gdrp C k) (n - 1) mo q = true ↔ gsp C n mo k q = true := by
  rw [gfull_H (by omega), gsp_H hn hk]
  constructor
  · rintro ⟨a, b⟩
    refine ⟨a, fun i hi hik => ?_⟩
    by_cases e : i < k
    · have := b i (by omega)
      unfold gH gdrp at this
      rw [if_pos e] at this
      exact this
    · have := b (i - 1) (by omega)
      unfold gH gdrp at this
      rw [if_neg (by omega), show i - 1 + 1 = i by omega] at this
      exact this
  · rintro ⟨a, b⟩
    refine ⟨a, fun i hi => ?_⟩
    unfold gH gdrp
    by_cases e : i < k
    · rw [if_pos e]; exact b i (by omega) (by omega)
    · rw [if_neg e]; exact b (i + 1) (by omega) (by omega)
/-! what the search remembers -/
def gZ (c n mo : Nat) (cells : Nat → Int32) (changes seen : Int32) (h : Nat → Int32) : Prop := changes = nI c ∧ (seen = -1 ∨ ∃ c', c' ≤ c ∧ seen = nI c') ∧ (seen = changes → gVh (fun k j => cells (6 * k + j)) n mo h)
section KZ
variable {c n mo : Nat} {cells h : Nat → Int32} {changes seen : Int32}
theorem gZ.ne {e : Nat} (z : gZ c n mo cells changes seen h) (h1 : 1 ≤ e) (h2 : c + e < 2 ^ 31) : ¬ seen = changes + nI e := by
  obtain ⟨rfl, z2, -⟩ := z
  intro y
  rw [nI_add] at y
  rcases z2 with z2 | ⟨c', z2, z3⟩
  · rw [z2] at y
    have := congrArg Int32.toInt y
    rw [nI_toInt h2, show (-1 : Int32).toInt = -1 from rfl] at this
    omega
  · rw [z3, nI_eq (by omega) h2] at y
    omega
theorem gZ.up {e n' mo' : Nat} {cells' : Nat → Int32} (z : gZ c n mo cells changes seen h) (h1 : 1 ≤ e) (h2 : c + e < 2 ^ 31) : gZ (c + e) n' mo' cells' (changes + nI e) seen h := by
  have hne := z.ne h1 h2
  obtain ⟨rfl, z2, -⟩ := z
  refine ⟨nI_add _ _, ?_, fun y => absurd y hne⟩
  rcases z2 with z2 | ⟨c', z2, z3⟩
  · exact Or.inl z2
  · exact Or.inr ⟨c', by omega, z3⟩
theorem gZ.up1 {n' mo' : Nat} {cells' : Nat → Int32} (z : gZ c n mo cells changes seen h) (h2 : c + 1 < 2 ^ 31) : gZ (c + 1) n' mo' cells' (changes + 1) seen h := z.up (e := 1) (Nat.le_refl _) h2
theorem gZ.new {e n' mo' : Nat} {cells' h' : Nat → Int32} (z : gZ c n mo cells changes seen h) (hv : gVh (fun k j => cells' (6 * k + j)) n' mo' h') : gZ (c + e) n' mo' cells' (changes + nI e) (changes + nI e) h' := by
  obtain ⟨rfl, -, -⟩ := z
  exact ⟨nI_add _ _, Or.inr ⟨c + e, Nat.le_refl _, nI_add _ _⟩, fun _ => hv⟩
theorem gZ.look {h' : Nat → Int32} (z : gZ c n mo cells changes seen h) (hv : gVh (fun k j => cells (6 * k + j)) n mo h') : gZ c n mo cells changes changes h' := by
  obtain ⟨rfl, -, -⟩ := z
  exact ⟨rfl, Or.inr ⟨c, Nat.le_refl _, rfl⟩, fun _ => hv⟩
end KZ
