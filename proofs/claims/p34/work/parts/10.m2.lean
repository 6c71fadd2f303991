/-! the class looks at all points -/
theorem gv0 (p : Nat) : gv p 0 = p / 512 % 8 := rfl
theorem gv1 (p : Nat) : gv p 1 = p / 64 % 8 := rfl
theorem gv2 (p : Nat) : gv p 2 = p / 8 % 8 := rfl
theorem gv3 (p : Nat) : gv p 3 = p % 8 := by
  show p / 1 % 8 = p % 8
  rw [Nat.div_one]
theorem gsum_next (C : Nat → Int32) {q : Nat} (h : q % 8 < 7) : gsum C (q + 1) = gsum C q + C 3 := by
  unfold gsum
  have e0 : gv (q + 1) 0 = gv q 0 := by rw [gv0, gv0]; omega
  have e1 : gv (q + 1) 1 = gv q 1 := by rw [gv1, gv1]; omega
  have e2 : gv (q + 1) 2 = gv q 2 := by rw [gv2, gv2]; omega
  have e3 : gv (q + 1) 3 = gv q 3 + 1 := by rw [gv3, gv3]; omega
  rw [e0, e1, e2, e3, nI_succ, Int32.mul_add, Int32.mul_one]
  ac_rfl
def gnote (h : Nat → Int32) (C : Nat → Int32) (k first i : Nat) : Nat → Int32 := fun q => if first ≤ q ∧ q < first + i ∧ ghold (C 5) (gsum C q) = true then h q ||| ((1 : Int32) <<< (nI k &&& 31)) else h q
theorem gnote_0 (h : Nat → Int32) (C : Nat → Int32) (k first : Nat) : gnote h C k first 0 = h := by
  funext q
  unfold gnote
  rw [if_neg (by omega)]
theorem gnote_s (h : Nat → Int32) (C : Nat → Int32) (k first i : Nat) : gnote h C k first (i + 1) = if ghold (C 5) (gsum C (first + i)) = true then upd (gnote h C k first i) (first + i) (gnote h C k first i (first + i) ||| ((1 : Int32) <<< (nI k &&& 31))) else gnote h C k first i := by
  funext q
  by_cases hq : q = first + i
  · subst hq
    by_cases hh : ghold (C 5) (gsum C (first + i)) = true
    · rw [if_pos hh, pk_us]
      unfold gnote
      rw [if_pos ⟨by omega, by omega, hh⟩, if_neg (by omega)]
    · rw [if_neg hh]
      unfold gnote
      rw [if_neg (fun z => hh z.2.2), if_neg (fun z => hh z.2.2)]
  · have e : gnote h C k first (i + 1) q = gnote h C k first i q := by
      unfold gnote
      by_cases hh : first ≤ q ∧ q < first + i ∧ ghold (C 5) (gsum C q) = true
      · rw [if_pos hh, if_pos ⟨hh.1, by omega, hh.2.2⟩]
      · rw [if_neg hh, if_neg (fun z => hh ⟨z.1, by omega, z.2.2⟩)]
    rw [e]
    by_cases hh : ghold (C 5) (gsum C (first + i)) = true
    · rw [if_pos hh, pk_un hq]
    · rw [if_neg hh]
theorem s_X5_noteLine {h cells : Nat → Int32} {k first m : Nat} {last : Int32} {Q : (Nat → Int32) → Prop} (hk : k < 8) (hf : first % 8 = 0) (hf2 : first < 4096) (hm : m ≤ 8) (hl : last.toInt = (first : Int) + m - 1) (hQ : Q (gnote h (fun j => cells (6 * k + j)) k first m)) : p_X5_noteLine h cells (nI k) (nI first) last Q := by
  unfold p_X5_noteLine p_X9_cell
  have e5 : nI k * (6 : Int32) + (5 : Int32) = nI (6 * k + 5) := gx_6 k 5
  have e3 : nI k * (6 : Int32) + (3 : Int32) = nI (6 * k + 3) := gx_6 k 3
  refine ⟨gx_in _ e5 (by omega) (by decide), gx_in _ e3 (by omega) (by decide), s_X9_sumAt hk hf2 ?_⟩
  rw [gx_cl _ e5 (by omega), gx_cl _ e3 (by omega)]
  refine gi3_inv m (fun i a b c => b = nI (first + i) ∧ (i < 8 → a = gsum (fun j => cells (6 * k + j)) (first + i)) ∧ c = gnote h (fun j => cells (6 * k + j)) k first i) ?_ ?_ ⟨rfl, fun _ => rfl, (gnote_0 _ _ _ _).symm⟩
  · rintro i hi X a b c ⟨rfl, ha, rfl⟩ hX
    unfold p_X5_noteLine_27 p_X5_noteLine_57
    refine ⟨fun g => ?_, fun _ => s_X1_holds ?_⟩
    · rw [Int32.lt_iff_toInt_lt, hl, nI_toInt (by omega)] at g; omega
    · rw [ha (by omega)]
      have hs : ∀ b : Nat, i + 1 < 8 → gsum (fun j => cells (6 * k + j)) (first + i) + cells (6 * k + 3) = gsum (fun j => cells (6 * k + j)) (first + (i + 1)) := fun _ h8 => (gsum_next (fun j => cells (6 * k + j)) (q := first + i) (by omega)).symm
      refine ⟨fun g => hX _ _ _ ⟨by rw [gl_1, nI_add]; rfl, hs 0, ?_⟩, fun g => ⟨vp_in_nI (by omega) (by decide), vp_in_nI (by omega) (by decide), hX _ _ _ ⟨by rw [gl_1, nI_add]; rfl, hs 0, ?_⟩⟩⟩
      · rw [gnote_s]
        by_cases hh : ghold (cells (6 * k + 5)) (gsum (fun j => cells (6 * k + j)) (first + i)) = true
        · rw [if_pos hh] at g; exact absurd g (by decide)
        · rw [if_neg hh]
      · rw [gnote_s, nI_clamp (by omega)]
        by_cases hh : ghold (cells (6 * k + 5)) (gsum (fun j => cells (6 * k + j)) (first + i)) = true
        · rw [if_pos hh]
        · rw [if_neg hh] at g; exact absurd rfl g
  · rintro X a b c ⟨rfl, ha, rfl⟩
    unfold p_X5_noteLine_27
    refine ⟨fun _ => hQ, fun g => absurd ?_ g⟩
    rw [Int32.lt_iff_toInt_lt, hl, nI_toInt (by omega)]; omega
/-- what stands of a point -/
def ghat (C : Nat → Nat → Int32) (n most p : Nat) : Int32 := if gbox most p = true then nI (gmask C n p) else -1
def gVh (C : Nat → Nat → Int32) (n most : Nat) (h : Nat → Int32) : Prop := ∀ p, p < 4096 → h p = ghat C n most p
theorem s_X5_lookAt_37 {h cells : Nat → Int32} {n most i m : Nat} {e : Int32} {K : Int32 → (Nat → Int32) → Prop} (hn : n ≤ 8) (hi : i < 512) (hm : m ≤ 8) (he : e.toInt = (m : Int) - 1) (hb : ∀ d, d < 8 → (gbox most (8 * i + d) = true ↔ d < m)) (h0 : ∀ q, q < 8 * i → h q = ghat (fun k j => cells (6 * k + j)) n most q) (hK : ∀ h' : Nat → Int32, (∀ q, q < 8 * (i + 1) → h' q = ghat (fun k j => cells (6 * k + j)) n most q) → K (nI (8 * (i + 1))) h') : p_X5_lookAt_37 h (nI n) cells (nI (8 * i)) e K := by
  unfold p_X5_lookAt_37
  have hlt : ∀ d : Nat, d ≤ 8 → (e < nI d ↔ m ≤ d) := by
    intro d hd
    rw [Int32.lt_iff_toInt_lt, he, nI_toInt (by omega)]
    omega
  refine gi2_inv 8 (fun d a c => a = nI d ∧ (∀ q, q < 8 * i → c q = h q) ∧ ∀ d', d' < d → c (8 * i + d') = if d' < m then nI 0 else -1) ?_ ?_ ⟨rfl, fun _ _ => rfl, fun d' hd => absurd hd (Nat.not_lt_zero d')⟩
  · rintro d hd X a c ⟨rfl, c1, c2⟩ hX
    unfold p_X5_lookAt_41 p_X5_lookAt_67
    refine ⟨fun g => ?_, fun _ => ⟨fun g => ⟨gx_in _ (nI_add _ _) (by omega) (by decide), hX _ _ ⟨by rw [gl_1, nI_add], ?_, ?_⟩⟩, fun g => ⟨gx_in _ (nI_add _ _) (by omega) (by decide), hX _ _ ⟨by rw [gl_1, nI_add], ?_, ?_⟩⟩⟩⟩
    · rw [gl_8, nI_leI (by decide) (by omega)] at g; omega
    · intro q hq
      rw [gx_cl _ (nI_add _ _) (by omega), pk_un (by omega)]
      exact c1 q hq
    · intro d' hd'
      rw [gx_cl _ (nI_add _ _) (by omega)]
      by_cases hdd : d' = d
      · subst hdd
        rw [pk_us, if_neg (by have := (hlt d' (by omega)).mp g; omega)]
      · rw [pk_un (by omega)]
        exact c2 d' (by omega)
    · intro q hq
      rw [gx_cl _ (nI_add _ _) (by omega), pk_un (by omega)]
      exact c1 q hq
    · intro d' hd'
      rw [gx_cl _ (nI_add _ _) (by omega)]
      by_cases hdd : d' = d
      · subst hdd
        rw [pk_us, if_pos (Nat.lt_of_not_le (fun z => g ((hlt d' (by omega)).mpr z)))]
        rfl
      · rw [pk_un (by omega)]
        exact c2 d' (by omega)
  · rintro X a c ⟨rfl, c1, c2⟩
    unfold p_X5_lookAt_41
    refine ⟨fun _ => ?_, fun g => absurd (by rw [gl_8, nI_leI (by decide) (by decide)]; omega) g⟩
    refine gi2_inv n (fun k a c' => a = nI k ∧ (∀ q, q < 8 * i → c' q = h q) ∧ ∀ d, d < 8 → c' (8 * i + d) = if d < m then nI (gmask (fun k j => cells (6 * k + j)) k (8 * i + d)) else -1) ?_ ?_ ⟨rfl, c1, c2⟩
    · rintro k hk X a c' ⟨rfl, g1, g2⟩ hX
      unfold p_X5_lookAt_77
      refine ⟨fun g => ?_, fun _ => s_X5_noteLine (m := m) (by omega) (by omega) (by omega) hm ?_ (hX _ _ ⟨by rw [gl_1, nI_add], ?_, ?_⟩)⟩
      · rw [nI_leI (by omega) (by omega)] at g; omega
      · rw [Int32.toInt_add, nI_toInt (by omega), he]
        rw [gm_bm (by omega) (by omega)]
        omega
      · intro q hq
        unfold gnote
        rw [if_neg (by omega)]
        exact g1 q hq
      · intro d hd
        unfold gnote
        rw [g2 d hd]
        by_cases hdm : d < m
        · rw [if_pos hdm, if_pos hdm]
          by_cases hh : ghold (cells (6 * k + 5)) (gsum (fun j => cells (6 * k + j)) (8 * i + d)) = true
          · rw [if_pos ⟨by omega, by omega, hh⟩, gm_or8 k (by omega) _ (gmask_lt _ _ _)]
            show _ = nI (gmask _ k _ + _)
            rw [if_pos hh]
          · rw [if_neg (fun z => hh z.2.2)]
            show _ = nI (gmask _ k _ + _)
            rw [if_neg hh]
            rfl
        · rw [if_neg hdm, if_neg hdm, if_neg (by omega)]
    · rintro X a c' ⟨rfl, g1, g2⟩
      unfold p_X5_lookAt_77
      refine ⟨fun _ => ?_, fun g => absurd (by rw [nI_leI (by omega) (by omega)]; omega) g⟩
      have e8 : nI (8 * i) + (8 : Int32) = nI (8 * (i + 1)) := by rw [gl_8, nI_add]; rfl
      rw [e8]
      refine hK _ (fun q hq => ?_)
      by_cases hq8 : q < 8 * i
      · rw [g1 q hq8]; exact h0 q hq8
      · obtain ⟨d, rfl⟩ : ∃ d, q = 8 * i + d := ⟨q - 8 * i, by omega⟩
        rw [g2 d (by omega)]
        unfold ghat
        by_cases hdm : d < m
        · rw [if_pos hdm, if_pos ((hb d (by omega)).mpr hdm)]
        · rw [if_neg hdm, if_neg (fun z => hdm ((hb d (by omega)).mp z))]
theorem s_X5_lookAt {seen changes : Int32} {h cells : Nat → Int32} {n most : Nat} {Q : Int32 → (Nat → Int32) → Prop} (hn : n ≤ 8) (hm : most ≤ 7) (hv : seen = changes → gVh (fun k j => cells (6 * k + j)) n most h) (hQ : ∀ h', gVh (fun k j => cells (6 * k + j)) n most h' → Q changes h') : p_X5_lookAt seen h (nI n) (nI most) changes cells Q := by
  unfold p_X5_lookAt
  refine ⟨fun g => by rw [g]; exact hQ h (hv g), fun _ => ?_⟩
  refine gi2_inv 512 (fun i a b => a = nI (8 * i) ∧ ∀ q, q < 8 * i → b q = ghat (fun k j => cells (6 * k + j)) n most q) ?_ ?_ ⟨rfl, fun q hq => absurd hq (Nat.not_lt_zero q)⟩
  · rintro i hi X a b ⟨rfl, hb⟩ hX
    unfold p_X5_lookAt_14
    have v0 : ∀ d, d < 8 → gv (8 * i + d) 0 = gv (8 * i) 0 := fun d hd => by rw [gv0, gv0]; omega
    have v1 : ∀ d, d < 8 → gv (8 * i + d) 1 = gv (8 * i) 1 := fun d hd => by rw [gv1, gv1]; omega
    have v2 : ∀ d, d < 8 → gv (8 * i + d) 2 = gv (8 * i) 2 := fun d hd => by rw [gv2, gv2]; omega
    have v3 : ∀ d, d < 8 → gv (8 * i + d) 3 = d := fun d hd => by rw [gv3]; omega
    refine ⟨fun g => ?_, fun _ => s_X9_isInBox hm (by omega) ⟨fun g => ?_, fun g => ?_⟩⟩
    · rw [show (4095 : Int32) = nI 4095 from rfl, nI_ltI (by decide) (by omega)] at g; omega
    · refine s_X5_lookAt_37 (m := 0) hn hi (by decide) (by decide) (fun d hd => ?_) hb (fun h' hh => hX _ _ ⟨rfl, hh⟩)
      refine ⟨fun z => ?_, fun z => absurd z (Nat.not_lt_zero d)⟩
      exfalso
      by_cases gb : gbox most (8 * i) = true
      · rw [if_pos gb] at g; exact absurd g (by decide)
      · apply gb
        have z := gbox_iff.mp z
        apply gbox_iff.mpr
        intro j hj
        rcases (show j = 0 ∨ j = 1 ∨ j = 2 ∨ j = 3 by omega) with rfl | rfl | rfl | rfl
        · rw [← v0 d hd]; exact z 0 hj
        · rw [← v1 d hd]; exact z 1 hj
        · rw [← v2 d hd]; exact z 2 hj
        · have := v3 0 (by decide)
          rw [Nat.add_zero] at this
          omega
    · refine s_X5_lookAt_37 (m := most + 1) hn hi (by omega) (by rw [nI_toInt (by omega)]; omega) (fun d hd => ?_) hb (fun h' hh => hX _ _ ⟨rfl, hh⟩)
      have gb : gbox most (8 * i) = true := by
        by_cases gb : gbox most (8 * i) = true
        · exact gb
        · rw [if_neg gb] at g; exact absurd rfl g
      have gb := gbox_iff.mp gb
      constructor
      · intro z
        have := gbox_iff.mp z 3 (by decide)
        rw [v3 d hd] at this
        omega
      · intro z
        apply gbox_iff.mpr
        intro j hj
        rcases (show j = 0 ∨ j = 1 ∨ j = 2 ∨ j = 3 by omega) with rfl | rfl | rfl | rfl
        · rw [v0 d hd]; exact gb 0 hj
        · rw [v1 d hd]; exact gb 1 hj
        · rw [v2 d hd]; exact gb 2 hj
        · rw [v3 d hd]; omega
  · rintro X a b ⟨rfl, hb⟩
    unfold p_X5_lookAt_14
    exact ⟨fun _ => hQ b hb, fun g => absurd (by rw [show (4095 : Int32) = nI 4095 from rfl, nI_ltI (by decide) (by decide)]; omega) g⟩
/-! the other one lays them -/
def gcnt (f : Nat → Bool) : Nat → Nat
  | 0 => 0
  | i + 1 => gcnt f i + (if f i = true then 1 else 0)
theorem gcnt_le (f : Nat → Bool) (i : Nat) : gcnt f i ≤ i := by
  induction i with
  | zero => exact Nat.le_refl 0
  | succ i ih =>
    show gcnt f i + _ ≤ i + 1
    split <;> omega
theorem gcnt_mono (f : Nat → Bool) {i j : Nat} (h : i ≤ j) : gcnt f i ≤ gcnt f j := by
  induction j with
  | zero => have : i = 0 := by omega
            subst this; exact Nat.le_refl _
  | succ j ih =>
    by_cases e : i = j + 1
    · subst e; exact Nat.le_refl _
    · have := ih (by omega)
      show _ ≤ gcnt f j + _
      omega
theorem gcnt_lt (f : Nat → Bool) {i j : Nat} (h : i < j) (hi : f i = true) : gcnt f i < gcnt f j := by
  have h1 : gcnt f (i + 1) ≤ gcnt f j := gcnt_mono f h
  have h2 : gcnt f (i + 1) = gcnt f i + 1 := by
    show gcnt f i + _ = _
    rw [if_pos hi]
  omega
def gLy (C : Nat → Nat → Int32) (n most : Nat) (hs ps : Nat → Int32) : Prop := ∀ q, q < 4096 → gbox most q = true → hs (gcnt (gbox most) q) = nI (gmask C n q) ∧ ps (gcnt (gbox most) q) = nI q
/-! folds -/
def gfo {α : Type} (s : Nat → α → α) (a : α) : Nat → α
  | 0 => a
  | i + 1 => s i (gfo s a i)
theorem gfo_box {α : Type} (f : Nat → Bool) (t : Int32 → Int32 → α → α) (hs ps M : Nat → Int32) (N : Nat) (h : ∀ q, q < N → f q = true → hs (gcnt f q) = M q ∧ ps (gcnt f q) = nI q) (a : α) : gfo (fun k a => t (ps k) (hs k) a) a (gcnt f N) = gfo (fun p a => if f p = true then t (nI p) (M p) a else a) a N := by
  induction N with
  | zero => rfl
  | succ N ih =>
    have ih := ih (fun q hq => h q (by omega))
    show gfo _ a (gcnt f N + _) = (if f N = true then _ else _)
    by_cases hf : f N = true
    · rw [if_pos hf, if_pos hf]
      show t (ps (gcnt f N)) (hs (gcnt f N)) (gfo _ a (gcnt f N)) = _
      rw [ih, (h N (by omega) hf).1, (h N (by omega) hf).2]
    · rw [if_neg hf, if_neg hf]
      exact ih
theorem gfo_congr {α : Type} {s t : Nat → α → α} (a : α) (N : Nat) (h : ∀ i, i < N → ∀ x, s i x = t i x) : gfo s a N = gfo t a N := by
  induction N with
  | zero => rfl
  | succ N ih =>
    show s N (gfo s a N) = t N (gfo t a N)
    rw [ih (fun i hi => h i (by omega)), h N (by omega)]
/-- a point is fulfilled -/
def gfull (C : Nat → Nat → Int32) (n most p : Nat) : Bool := gbox most p && decide (gmask C n p = 2 ^ n - 1)
theorem gm_ne1 : ∀ m, m < 256 → ¬ ((-1 : Int32) = nI m) := by decide +kernel
theorem gm_p2 (n : Nat) (hn : n ≤ 8) : 2 ^ n ≤ 256 := by
  have := Nat.pow_le_pow_right (show 0 < 2 by decide) hn
  exact this
theorem ghat_full {C : Nat → Nat → Int32} {n most p : Nat} (hn : n ≤ 8) : (ghat C n most p = nI (2 ^ n - 1)) ↔ gfull C n most p = true := by
  have h1 := gmask_lt C n p
  have h2 := gm_p2 n hn
  unfold ghat gfull
  by_cases hb : gbox most p = true
  · rw [if_pos hb, nI_eq (by omega) (by omega), hb]
    simp
  · rw [if_neg hb]
    have hb2 : gbox most p = false := by simpa using hb
    rw [hb2]
    simp only [Bool.false_and]
    exact ⟨fun z => absurd z (gm_ne1 _ (by omega)), fun z => absurd z (by decide)⟩
theorem gm_and_all : ∀ n, n ≤ 8 → ∀ m, m < 2 ^ n → (nI m &&& nI (2 ^ n - 1) = nI (2 ^ n - 1) ↔ m = 2 ^ n - 1) := by decide +kernel
