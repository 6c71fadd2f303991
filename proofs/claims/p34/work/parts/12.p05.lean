/-! sets as bits -/
theorem gor_bit (f : Nat → Bool) (v : Nat → Nat) (k : Nat) : ∀ N, gor f v N / 2 ^ k % 2 = 1 ↔ ∃ q, q < N ∧ f q = true ∧ v q = k := by
  intro N
  rw [show (gor f v N / 2 ^ k % 2 = 1) ↔ (gor f v N).testBit k = true by rw [Nat.testBit_eq_decide_div_mod_eq, decide_eq_true_eq]]
  induction N with
  | zero =>
    show (0 : Nat).testBit k = true ↔ _
    rw [Nat.zero_testBit]
    exact ⟨fun z => absurd z (by decide), fun ⟨q, hq, _⟩ => absurd hq (Nat.not_lt_zero q)⟩
  | succ N ih =>
    by_cases e : f N = true
    · rw [gor_t e, Nat.testBit_or, Bool.or_eq_true, ih, Nat.testBit_two_pow, decide_eq_true_eq]
      constructor
      · rintro (⟨q, h1, h2, h3⟩ | h)
        · exact ⟨q, by omega, h2, h3⟩
        · exact ⟨N, by omega, e, h⟩
      · rintro ⟨q, h1, h2, h3⟩
        by_cases z : q = N
        · exact Or.inr (by rw [← z]; exact h3)
        · exact Or.inl ⟨q, by omega, h2, h3⟩
    · rw [gor_f e, ih]
      constructor
      · rintro ⟨q, h1, h2, h3⟩
        exact ⟨q, by omega, h2, h3⟩
      · rintro ⟨q, h1, h2, h3⟩
        by_cases z : q = N
        · rw [z] at h2; exact absurd h2 e
        · exact ⟨q, by omega, h2, h3⟩
theorem gor_none {f : Nat → Bool} {v : Nat → Nat} {N : Nat} (h : ∀ q, q < N → ¬ f q = true) : gor f v N = 0 := by
  induction N with
  | zero => rfl
  | succ N ih => rw [gor_f (h N (by omega)), ih (fun q hq => h q (by omega))]
theorem gbit2 (s k : Nat) : s / 2 ^ k % 2 = 0 ∨ s / 2 ^ k % 2 = 1 := by omega
theorem ghi_lt {s k : Nat} (hs : s < 32768) (h : ∀ j, k < j → s / 2 ^ j % 2 = 0) : s < 2 ^ (k + 1) := by
  have h0 : s / 2 ^ (k + 1) = 0 := by
    refine gm_bz 15 _ (Nat.lt_of_le_of_lt (Nat.div_le_self _ _) hs) (fun j _ => ?_)
    rw [Nat.div_div_eq_div_mul, ← Nat.pow_add]
    exact h _ (by omega)
  rcases Nat.div_eq_zero_iff.mp h0 with z | z
  · exact absurd z (Nat.ne_of_gt (Nat.two_pow_pos _))
  · exact z
theorem gm_2sl : ∀ k, k < 15 → (2 : Int32) <<< (nI k &&& 31) = nI (2 ^ (k + 1)) := by decide +kernel
theorem gbs_pos {s j : Nat} (h : s / 2 ^ j % 2 = 1) : ∀ N, j < N → 0 < gbs s N := by
  intro N
  induction N with
  | zero => intro z; exact absurd z (Nat.not_lt_zero j)
  | succ N ih =>
    intro z
    show 0 < gbs s N + s / 2 ^ N % 2
    by_cases e : j = N
    · rw [← e, h]; omega
    · have := ih (by omega)
      omega
theorem gbs_span {s a b : Nat} (h : ∀ j, (j < a ∨ b < j) → s / 2 ^ j % 2 = 0) : ∀ N, gbs s N ≤ if N ≤ a then 0 else if N ≤ b + 1 then N - a else b + 1 - a := by
  intro N
  induction N with
  | zero => exact Nat.zero_le _
  | succ N ih =>
    show gbs s N + s / 2 ^ N % 2 ≤ _
    have hb := gbit2 s N
    by_cases z : N < a ∨ b < N
    · have := h N z
      revert ih
      split <;> split <;> (try split) <;> (try split) <;> omega
    · revert ih
      split <;> split <;> (try split) <;> (try split) <;> omega
theorem gbs_mir {s t : Nat} (h : ∀ j, j < 15 → t / 2 ^ j % 2 = s / 2 ^ (14 - j) % 2) : gbs t 15 = gbs s 15 := by
  rw [gb15_ok, gb15_ok]
  unfold gb15
  have h0 := h 0 (by decide)
  have h1 := h 1 (by decide)
  have h2 := h 2 (by decide)
  have h3 := h 3 (by decide)
  have h4 := h 4 (by decide)
  have h5 := h 5 (by decide)
  have h6 := h 6 (by decide)
  have h7 := h 7 (by decide)
  have h8 := h 8 (by decide)
  have h9 := h 9 (by decide)
  have h10 := h 10 (by decide)
  have h11 := h 11 (by decide)
  have h12 := h 12 (by decide)
  have h13 := h 13 (by decide)
  have h14 := h 14 (by decide)
  simp only [Nat.reducePow, Nat.reduceSub, Nat.pow_zero, Nat.div_one] at h0 h1 h2 h3 h4 h5 h6 h7 h8 h9 h10 h11 h12 h13 h14
  omega
/-- the distances, seen from the other -/
theorem ggap_mir (f : Nat → Bool) (i o : Nat) : ∀ j, j < 15 → gor f (fun p => gv p i + 7 - gv p o) 4096 / 2 ^ j % 2 = gor f (fun p => gv p o + 7 - gv p i) 4096 / 2 ^ (14 - j) % 2 := by
  intro j hj
  have a := gor_bit f (fun p => gv p i + 7 - gv p o) j 4096
  have b := gor_bit f (fun p => gv p o + 7 - gv p i) (14 - j) 4096
  have c := gbit2 (gor f (fun p => gv p i + 7 - gv p o) 4096) j
  have d := gbit2 (gor f (fun p => gv p o + 7 - gv p i) 4096) (14 - j)
  have e : (∃ q, q < 4096 ∧ f q = true ∧ gv q i + 7 - gv q o = j) ↔ ∃ q, q < 4096 ∧ f q = true ∧ gv q o + 7 - gv q i = 14 - j := by
    constructor
    · rintro ⟨q, h1, h2, h3⟩
      have := gv_lt q i
      have := gv_lt q o
      exact ⟨q, h1, h2, by omega⟩
    · rintro ⟨q, h1, h2, h3⟩
      have := gv_lt q i
      have := gv_lt q o
      exact ⟨q, h1, h2, by omega⟩
  have key := a.trans (e.trans b.symm)
  rcases c with c | c <;> rcases d with d | d
  · rw [c, d]
  · have := key.mpr d; omega
  · have := key.mp c; omega
  · rw [c, d]
theorem gm_s7 {k : Nat} (hk : k < 15) : (nI k - (7 : Int32)).toInt = (k : Int) - 7 := pk_sub_toInt (b := 7) (by omega) (by decide)
/-! stands -/
section KS
variable {n mo : Nat} {C : Nat → Nat → Int32} {cells h w : Nat → Int32} {known size most changes seen : Int32}
theorem lx_st_ap {v u : Nat} {x2 : Int32} {s0 : Int32} {K : Int32 → Int32 → Int32 → (Nat → Int32) → Prop} (hT : gTc n mo C cells size most) (hv : seen = changes → gVh (fun k j => cells (6 * k + j)) n mo h) (hvi : v < 4) (hu : u = (v + 1) % 4) (hs0 : s0 = 1) (hx2 : (x2 = 0 ∧ ∀ q, q < 4096 → ¬ gfull C n mo q = true) ∨ (¬ x2 = 0 ∧ ∃ q, q < 4096 ∧ gfull C n mo q = true)) (hK : ∀ h', gVh (fun k j => cells (6 * k + j)) n mo h' → K 1 (nI (v + 1)) changes h') : p_L_stands_250 size most changes cells seen h x2 (nI v) s0 K := by
  have hu4 : u < 4 := by omega
  have huv : v ≠ u := by omega
  unfold p_L_stands_250
  intro z hz
  rw [gl_1, nI_add, gl_4, pk_rem (by omega) (by decide) (by decide), ← hu] at hz
  subst hz
  have fin : ∀ h', gVh (fun k j => cells (6 * k + j)) n mo h' → p_L_stands_380 changes h' (nI v) K := fun h' hh => by
    unfold p_L_stands_380 p_L_stands_385
    rw [gl_1, nI_add]
    exact hK h' hh
  have c1 : ¬ s0 = 0 := by rw [hs0]; decide
  rcases hx2 with ⟨e, hno⟩ | ⟨e, q0, hq0, hf0⟩
  · have G0 : ∀ i o, gor (gfull C n mo) (fun p => gv p o + 7 - gv p i) 4096 = 0 := fun i o => gor_none hno
    refine k_apart0 hT hv hvi hu4 huv (fun _ h1 g1 => ?_) (fun y => absurd (G0 v u) y)
    refine k_apart1 hT (fun _ => g1) hvi hu4 huv (fun _ h2 g2 => ?_) (fun y => absurd (G0 v u) y)
    refine k_apart2 hT (fun _ => g2) hvi hu4 huv (fun h3 g3 => ?_)
    refine ⟨fun y => absurd y c1, fun _ => ⟨fun _ => ⟨fun _ => fin h3 g3, fun y => absurd ?_ y⟩, fun y => absurd e y⟩⟩
    rw [G0 v u]
    rfl
  · have hb0 := (gor_bit (gfull C n mo) (fun p => gv p u + 7 - gv p v) (gv q0 u + 7 - gv q0 v) 4096).mpr ⟨q0, hq0, hf0, rfl⟩
    have hm := ggap_mir (gfull C n mo) v u
    have l1 := gorg_lt (gfull C n mo) v u
    have l2 := gorg_lt (gfull C n mo) u v
    revert hb0 hm l1 l2
    have p0 := @k_apart0 n mo C cells
    have p1 := @k_apart1 n mo C cells
    have p2 := @k_apart2 n mo C cells
    intro hb0 hm l1 l2
    have n1 : ¬ gor (gfull C n mo) (fun p => gv p u + 7 - gv p v) 4096 = 0 := fun y => by
      rw [y, Nat.zero_div] at hb0
      exact absurd hb0 (by decide)
    have n2 : ¬ gor (gfull C n mo) (fun p => gv p v + 7 - gv p u) 4096 = 0 := fun y => by
      have g1 := gv_lt q0 u
      have g2 := gv_lt q0 v
      have := hm (14 - (gv q0 u + 7 - gv q0 v)) (by omega)
      rw [y, Nat.zero_div, show 14 - (14 - (gv q0 u + 7 - gv q0 v)) = gv q0 u + 7 - gv q0 v by omega, hb0] at this
      exact absurd this (by decide)
    refine k_apart0 hT hv hvi hu4 huv (fun y => absurd y n1) (fun _ h1 a g1 ha a1 a2 => ?_)
    refine k_apart1 hT (fun _ => g1) hvi hu4 huv (fun y => absurd y n1) (fun _ h2 b g2 hb b1 b2 => ?_)
    refine k_apart2 hT (fun _ => g2) hvi hu4 huv (fun h3 g3 => ?_)
    have hab : a ≤ b := by
      rcases Nat.lt_or_ge b a with y | y
      · have := b2 a y; omega
      · exact y
    have cnt0 := gbs_pos a1 15 ha
    have cnt1 := gbs_span (s := gor (gfull C n mo) (fun p => gv p u + 7 - gv p v) 4096) (a := a) (b := b) (fun j hj => by
      rcases hj with y | y
      · exact a2 j y
      · exact b2 j y) 15
    have cnt2 : gbs (gor (gfull C n mo) (fun p => gv p u + 7 - gv p v) 4096) 15 ≤ b + 1 - a := by
      revert cnt1
      split
      · omega
      · split <;> omega
    have cnt3 : gbs (gor (gfull C n mo) (fun p => gv p v + 7 - gv p u) 4096) 15 = gbs (gor (gfull C n mo) (fun p => gv p u + 7 - gv p v) 4096) 15 := gbs_mir hm
    have sa := gm_s7 ha
    have sb := gm_s7 hb
    refine ⟨fun y => absurd y c1, fun _ => ⟨fun y => absurd y e, fun _ => ⟨fun y => ?_, fun _ => ⟨fun y => ?_, fun _ => ⟨fun y => ?_, fun _ => ?_⟩⟩⟩⟩⟩
    · rw [Int32.lt_iff_toInt_lt, sa, sb] at y
      omega
    · rw [gl_0, nI_leI (by omega) (by decide)] at y
      omega
    · have e1 : (nI b - (7 : Int32) - (nI a - (7 : Int32)) + (1 : Int32)) = nI (b - a + 1) := by
        apply Int32.toInt_inj.mp
        rw [nI_toInt (by omega), Int32.toInt_add, Int32.toInt_sub, sa, sb, show (1 : Int32).toInt = 1 from rfl]
        rw [gm_bm (z := (b : Int) - 7 - ((a : Int) - 7)) (by omega) (by omega), gm_bm (by omega) (by omega)]
        omega
      rw [e1, nI_ltI (by omega) (by omega)] at y
      omega
    · refine k_apart0 hT (fun _ => g3) hu4 hvi (Ne.symm huv) (fun y => absurd y n2) (fun _ h4 a' g4 ha' a1' a2' => ?_)
      have ea : a' = 14 - b := by
        have m1 := hm a' ha'
        have m2 := hm (14 - b) (by omega)
        rw [show 14 - (14 - b) = b by omega, b1] at m2
        rcases Nat.lt_trichotomy a' (14 - b) with y | y | y
        · have := b2 (14 - a') (by omega); omega
        · exact y
        · have := a2' (14 - b) y; omega
      refine ⟨fun _ => ?_, fun y => absurd ?_ y⟩
      · refine k_apart1 hT (fun _ => g4) hu4 hvi (Ne.symm huv) (fun y => absurd y n2) (fun _ h5 b' g5 hb' b1' b2' => ?_)
        have eb : b' = 14 - a := by
          have m1 := hm b' hb'
          have m2 := hm (14 - a) (by omega)
          rw [show 14 - (14 - a) = a by omega, a1] at m2
          rcases Nat.lt_trichotomy b' (14 - a) with y | y | y
          · have := b2' (14 - a) y; omega
          · exact y
          · have := a2 (14 - b') (by omega); omega
        refine ⟨fun _ => ?_, fun y => absurd ?_ y⟩
        · refine k_apart2 hT (fun _ => g5) hu4 hvi (Ne.symm huv) (fun h6 g6 => ⟨fun _ => fin h6 g6, fun y => absurd ?_ y⟩)
          rw [cnt3]
        · apply Int32.toInt_inj.mp
          rw [gm_s7 hb', Int32.toInt_sub, sa, show (0 : Int32).toInt = 0 from rfl, gm_bm (by omega) (by omega)]
          omega
      · apply Int32.toInt_inj.mp
        rw [gm_s7 ha', Int32.toInt_sub, sb, show (0 : Int32).toInt = 0 from rfl, gm_bm (by omega) (by omega)]
        omega
theorem gm_nar1 : narrow .boolean (.int (1 : Int32)) = .int (1 : Int32) := rfl
theorem lx_st_loop {x2 x3 : Int32} {Q : Int32 → Int32 → (Nat → Int32) → Prop} (hT : gTc n mo C cells size most) (hw : gLw n mo C w) (hv : gVh (fun k j => cells (6 * k + j)) n mo h) (hx2 : (x2 = 0 ∧ ∀ q, q < 4096 → ¬ gfull C n mo q = true) ∨ (¬ x2 = 0 ∧ ∃ p, x3 = nI p ∧ p < 4096 ∧ gfull C n mo p = true)) (hQ : ∀ h', gVh (fun k j => cells (6 * k + j)) n mo h' → Q 1 changes h') : p_L_stands_93 size most changes cells changes h w x2 x3 Q := by
  have hmo := hT.2.1
  have hmo7 := hT.2.2.1
  have hx2' : (x2 = 0 ∧ ∀ q, q < 4096 → ¬ gfull C n mo q = true) ∨ (¬ x2 = 0 ∧ ∃ q, q < 4096 ∧ gfull C n mo q = true) := by
    rcases hx2 with y | ⟨y, p, -, h1, h2⟩
    · exact Or.inl y
    · exact Or.inr ⟨y, p, h1, h2⟩
  unfold p_L_stands_93 p_L_stands_98
  refine gi4_ix (fun i a b c d => ∃ v, i + v = 4 ∧ b = nI v ∧ a = 1 ∧ changes = c ∧ gVh (fun k j => cells (6 * k + j)) n mo d) ?_ 4 ⟨0, rfl, rfl, rfl, rfl, hv⟩
  rintro i X a b c d ⟨v, hi, rfl, rfl, rfl, hd⟩ hX
  unfold p_L_stands_103
  refine ⟨fun y => ⟨gm_nar1, hQ d hd⟩, fun y => ⟨g10, fun _ => ?_⟩⟩
  rw [gl_4, nI_leI (by decide) (by omega)] at y
  have hv4 : v < 4 := by omega
  have fin : ∀ h', gVh (fun k j => cells (6 * k + j)) n mo h' → p_L_stands_250 size most changes cells changes h' x2 (nI v) 1 X := fun h' hh =>
    lx_st_ap hT (fun _ => hh) hv4 rfl rfl hx2' (fun h2 g2 => hX (i - 1) _ _ _ _ (by omega) ⟨v + 1, by omega, rfl, rfl, rfl, g2⟩)
  rcases hx2 with ⟨e, hno⟩ | ⟨e, p, rfl, hp, hf⟩
  · have S0 : gor (gfull C n mo) (fun p => gv p v) 4096 = 0 := gor_none hno
    refine k_range0 hT (fun _ => hd) hv4 (fun _ h1 g1 => ?_) (fun y => absurd S0 y)
    refine k_range1 hT (fun _ => g1) hv4 (fun _ h2 g2 => ?_) (fun y => absurd S0 y)
    refine k_range2 hT (fun _ => g2) hv4 (fun h3 g3 => ?_)
    refine ⟨fun _ => ⟨fun _ => ⟨fun _ => ⟨fun _ => fin h3 g3, fun y => absurd ?_ y⟩, fun y => absurd rfl y⟩, fun y => absurd rfl y⟩, fun y => absurd e y⟩
    rw [S0]
    rfl
  · have hb0 := (gor_bit (gfull C n mo) (fun p => gv p v) (gv p v) 4096).mpr ⟨p, hp, hf, rfl⟩
    have lt := gorv_lt (gfull C n mo) v
    have n1 : ¬ gor (gfull C n mo) (fun p => gv p v) 4096 = 0 := fun y => by
      rw [y, Nat.zero_div] at hb0
      exact absurd hb0 (by decide)
    refine k_range0 hT (fun _ => hd) hv4 (fun y => absurd y n1) (fun _ h1 a g1 ha a1 a2 => ?_)
    refine k_range1 hT (fun _ => g1) hv4 (fun y => absurd y n1) (fun _ h2 b g2 hb b1 b2 => ?_)
    refine k_range2 hT (fun _ => g2) hv4 (fun h3 g3 => ?_)
    have hab : a ≤ b := by
      rcases Nat.lt_or_ge b a with y | y
      · have := b2 a y; omega
      · exact y
    have hbm : b ≤ mo := by
      obtain ⟨q, hq, hfq, e⟩ := (gor_bit (gfull C n mo) (fun p => gv p v) b 4096).mp b1
      have := gbox_iff.mp (gfull_box hfq) v hv4
      have e : gv q v = b := e
      omega
    have hpa : a ≤ gv p v := by
      rcases Nat.lt_or_ge (gv p v) a with y | y
      · have := a2 _ y; omega
      · exact y
    have hpb : gv p v ≤ b := by
      rcases Nat.lt_or_ge b (gv p v) with y | y
      · have := b2 _ y; omega
      · exact y
    have top := ghi_lt lt b2
    refine ⟨fun y => absurd y e, fun _ => ⟨fun y => absurd y (nI_pos (by omega)), fun _ => ⟨fun y => ?_, fun _ => ⟨gx_in 1 rfl (by decide) (by decide), fun y => ?_, fun _ => ⟨fun _ => ⟨fun _ => ⟨fun y => ?_, fun _ => ?_⟩, fun y => absurd ?_ y⟩, fun y => absurd ?_ y⟩⟩⟩⟩⟩
    · rw [nI_ltI (by omega) (by omega)] at y; omega
    · rw [gcl_1, hw.2.1, nI_ltI (by omega) (by omega)] at y; omega
    · rw [gm_2sl b hb, nI_leI (Nat.lt_of_le_of_lt (Nat.pow_le_pow_right (by decide) (show b + 1 ≤ 15 by omega)) (by decide)) (by omega)] at y
      omega
    · refine lx_value hp hv4 ⟨fun y => ?_, fun _ => lx_value hp hv4 ⟨fun y => ?_, fun _ => fin h3 g3⟩⟩
      · rw [nI_ltI (by have := gv_lt p v; omega) (by omega)] at y; omega
      · rw [nI_ltI (by omega) (by have := gv_lt p v; omega)] at y; omega
    · rw [gm_bit (by omega) (by omega), b1]; rfl
    · rw [gm_bit (by omega) (by omega), a1]; rfl
theorem lx_stands {Q : Int32 → Int32 → (Nat → Int32) → Prop} (hT : gTc n mo C cells size most) (hw : gLw n mo C w) (hv : seen = changes → gVh (fun k j => cells (6 * k + j)) n mo h) (hQ : ∀ h', gVh (fun k j => cells (6 * k + j)) n mo h' → Q 1 changes h') : p_L_stands known size most changes cells seen h w Q := by
  have hn := hT.1
  have hmo7 := hT.2.2.1
  have hs := hT.2.2.2.1
  have hms := hT.2.2.2.2.1
  have N31 : gcnt (gfull C n mo) 4096 < 2 ^ 31 := Nat.lt_of_le_of_lt (gcnt_le _ _) (by decide)
  unfold p_L_stands
  refine k_count2 hT hv (fun h1 g1 => ?_)
  refine k_count3 hT (fun _ => g1) (fun h2 p g2 hp hf _ => ?_) (fun h2 g2 hno => ?_)
  · have N0 : ¬ gcnt (gfull C n mo) 4096 = 0 := fun z => gcnt_z.mp z p hp hf
    refine k_count0 (fun z hz => ⟨fun y => absurd y (nI_pos N31), fun _ => ?_⟩)
    rw [hs, gm_all n hn] at hz
    subst hz
    refine k_count0 ⟨gx_in 0 rfl (by decide) (by decide), fun _ => k_count1 ⟨gx_in 1 rfl (by decide) (by decide), fun _ => ⟨fun y => ?_, fun _ => ?_⟩, fun y => absurd ?_ y⟩, fun y => absurd ?_ y⟩
    · rw [gl_0, nI_leI N31 (by decide)] at y; omega
    · unfold p_L_stands_58 p_L_stands_67
      refine ⟨fun y => absurd y (nI_pos (by omega)), fun _ => ⟨fun _ => ⟨fun _ => k_hold hT hp ⟨fun _ => ?_, fun y => absurd ?_ y⟩, fun y => absurd (nI_pos' (by omega)) y⟩, fun y => absurd rfl y⟩⟩
      · exact lx_st_loop hT hw g2 (Or.inr ⟨fun y => by rw [gl_0, nI_eq N31 (by decide)] at y; exact N0 y, p, rfl, hp, hf⟩) hQ
      · have : gmask C n p = 2 ^ n - 1 := by
          unfold gfull at hf
          rw [Bool.and_eq_true, decide_eq_true_eq] at hf
          exact hf.2
        rw [this]
    · rw [gcl_1, hw.2.1, hms]
    · rw [gcl_0, hw.1, hs]
  · have N0 : gcnt (gfull C n mo) 4096 = 0 := gcnt_z.mpr hno
    rw [N0]
    refine k_count0 (fun z hz => ⟨fun y => absurd y (by decide), fun _ => ?_⟩)
    refine k_count0 ⟨gx_in 0 rfl (by decide) (by decide), fun _ => k_count1 ⟨gx_in 1 rfl (by decide) (by decide), fun _ => ⟨fun _ => ?_, fun y => absurd ?_ y⟩, fun y => absurd ?_ y⟩, fun y => absurd ?_ y⟩
    · unfold p_L_stands_58 p_L_stands_67
      refine ⟨fun _ => ⟨fun _ => ⟨fun y => absurd y (by decide), fun _ => ⟨fun _ => ?_, fun y => absurd rfl y⟩⟩, fun y => absurd rfl y⟩, fun y => absurd (by decide) y⟩
      exact lx_st_loop hT hw g2 (Or.inl ⟨rfl, hno⟩) hQ
    · decide
    · rw [gcl_1, hw.2.1, hms]
    · rw [gcl_0, hw.1, hs]
end KS
