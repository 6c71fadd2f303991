/-! how many points, the first -/
theorem gl_4095 : (4095 : Int32) = nI 4095 := rfl
theorem gl_4096 : (4096 : Int32) = nI 4096 := rfl
theorem gcnt_s {f : Nat → Bool} {i : Nat} (h : f i = true) : gcnt f (i + 1) = gcnt f i + 1 := by
  show gcnt f i + _ = _
  rw [if_pos h]
theorem gcnt_n {f : Nat → Bool} {i : Nat} (h : ¬ f i = true) : gcnt f (i + 1) = gcnt f i := by
  show gcnt f i + _ = _
  rw [if_neg h]; rfl
theorem gcnt_gfo (f : Nat → Bool) (N : Nat) : gfo (fun p a => if f p = true then a + 1 else a) 0 N = gcnt f N := by
  induction N with
  | zero => rfl
  | succ N ih =>
    show (if f N = true then _ else _) = gcnt f N + _
    rw [ih]
    split <;> rfl
/-- each number below the count is that of a point -/
theorem gcnt_sur (f : Nat → Bool) : ∀ N k, k < gcnt f N → ∃ q, q < N ∧ f q = true ∧ gcnt f q = k := by
  intro N
  induction N with
  | zero => intro k h; exact absurd h (Nat.not_lt_zero k)
  | succ N ih =>
    intro k h
    by_cases hk : k < gcnt f N
    · obtain ⟨q, h1, h2, h3⟩ := ih k hk
      exact ⟨q, by omega, h2, h3⟩
    · by_cases hf : f N = true
      · rw [gcnt_s hf] at h
        exact ⟨N, by omega, hf, by omega⟩
      · rw [gcnt_n hf] at h
        exact absurd h hk
theorem s_X5_pointCount {seen changes : Int32} {h cells : Nat → Int32} {n most : Nat} {Q : Int32 → Int32 → (Nat → Int32) → Prop} (hn : n ≤ 8) (hm : most ≤ 7) (hv : seen = changes → gVh (fun k j => cells (6 * k + j)) n most h) (hQ : ∀ h', gVh (fun k j => cells (6 * k + j)) n most h' → Q (nI (gcnt (gfull (fun k j => cells (6 * k + j)) n most) 4096)) changes h') : p_X5_pointCount seen h (nI n) (nI most) changes cells Q := by
  unfold p_X5_pointCount
  refine s_X5_lookAt hn hm hv (fun h' hh => s_X9_all hn ?_)
  refine gi2_inv 4096 (fun i a b => b = nI i ∧ a = nI (gcnt (gfull (fun k j => cells (6 * k + j)) n most) i)) ?_ ?_ ⟨rfl, rfl⟩
  · rintro i hi X a b ⟨rfl, rfl⟩ hX
    unfold p_X5_pointCount_15 p_X5_pointCount_37
    refine ⟨fun g => ?_, fun _ => ⟨vp_in_nI hi (by decide), ?_⟩⟩
    · rw [gl_4095, nI_ltI (by decide) (by omega)] at g; omega
    · rw [nI_clamp (by omega), hh i hi, ghat_full hn]
      exact ⟨fun g => hX _ _ ⟨by rw [gl_1, nI_add], by rw [gcnt_s g, gl_1, nI_add]⟩, fun g => hX _ _ ⟨by rw [gl_1, nI_add], by rw [gcnt_n g]⟩⟩
  · rintro X a b ⟨rfl, rfl⟩
    unfold p_X5_pointCount_15
    exact ⟨fun _ => hQ h' hh, fun g => absurd (by rw [gl_4095, nI_ltI (by decide) (by decide)]; omega) g⟩
theorem s_X11_pointsBy {hs : Nat → Int32} {set : Int32} {many : Nat} {Q : Int32 → Prop} (hm : many ≤ 4096) (hQ : Q (nI (gfo (fun k a => if hs k &&& set = set then a + 1 else a) 0 many))) : p_X11_pointsBy (nI many) hs set Q := by
  unfold p_X11_pointsBy
  refine gi2_inv many (fun i a b => b = nI i ∧ a = nI (gfo (fun k a => if hs k &&& set = set then a + 1 else a) 0 i)) ?_ ?_ ⟨rfl, rfl⟩
  · rintro i hi X a b ⟨rfl, rfl⟩ hX
    unfold p_X11_pointsBy_4 p_X11_pointsBy_30
    refine ⟨fun g => ?_, fun _ => ⟨vp_in_nI (by omega) (by decide), ?_⟩⟩
    · rw [nI_leI (by omega) (by omega)] at g; omega
    · rw [nI_clamp (by omega)]
      refine ⟨fun g => hX _ _ ⟨by rw [gl_1, nI_add], ?_⟩, fun g => hX _ _ ⟨by rw [gl_1, nI_add], ?_⟩⟩
      · show _ = nI (if _ then _ else _)
        rw [if_pos g, gl_1, nI_add]
      · show _ = nI (if _ then _ else _)
        rw [if_neg g, Int32.add_zero]
  · rintro X a b ⟨rfl, rfl⟩
    unfold p_X11_pointsBy_4
    exact ⟨fun _ => hQ, fun g => absurd (by rw [nI_leI (by omega) (by omega)]; omega) g⟩
/-- how many laid points a set lets through -/
theorem gby {C : Nat → Nat → Int32} {n most : Nat} {hs ps : Nat → Int32} (hL : gLy C n most hs ps) (set : Int32) (f : Nat → Bool) (hf : ∀ q, q < 4096 → (f q = true ↔ gbox most q = true ∧ nI (gmask C n q) &&& set = set)) : gfo (fun k a => if hs k &&& set = set then a + 1 else a) 0 (gcnt (gbox most) 4096) = gcnt f 4096 := by
  have h1 := gfo_box (gbox most) (fun _ m (a : Nat) => if m &&& set = set then a + 1 else a) hs ps (fun q => nI (gmask C n q)) 4096 hL 0
  rw [h1, ← gcnt_gfo]
  refine gfo_congr 0 4096 (fun i hi x => ?_)
  by_cases hb : gbox most i = true
  · rw [if_pos hb]
    by_cases hc : nI (gmask C n i) &&& set = set
    · rw [if_pos hc, if_pos ((hf i hi).mpr ⟨hb, hc⟩)]
    · rw [if_neg hc, if_neg (fun z => hc ((hf i hi).mp z).2)]
  · rw [if_neg hb, if_neg (fun z => hb ((hf i hi).mp z).1)]
theorem gfull_and {C : Nat → Nat → Int32} {n most q : Nat} (hn : n ≤ 8) : gfull C n most q = true ↔ gbox most q = true ∧ nI (gmask C n q) &&& nI (2 ^ n - 1) = nI (2 ^ n - 1) := by
  rw [gm_and_all n hn _ (gmask_lt C n q)]
  unfold gfull
  simp
theorem s_X11_pointsNow {many : Int32} {holds now points : Nat → Int32} {n most : Nat} {Q : Int32 → Int32 → (Nat → Int32) → (Nat → Int32) → Prop} (h0 : now 0 = nI n) (h1 : now 1 = nI most) (hn : n ≤ 8) (hm : most ≤ 7) (hQ : ∀ m hs ps, Q (nI (gcnt (gfull (fun k j => now (3 + 6 * k + j)) n most) 4096)) m hs ps) : p_X11_pointsNow many holds now points Q := by
  unfold p_X11_pointsNow
  refine s_X11_lays h0 h1 hn hm (fun hs ps hL => s_X11_all h0 hn (s_X11_pointsBy (gcnt_le _ _) ?_))
  rw [gby hL _ _ (fun q _ => gfull_and hn)]
  exact hQ _ _ _
theorem s_X5_pointFrom {seen changes : Int32} {h cells : Nat → Int32} {n most least : Nat} {Q : Int32 → Int32 → (Nat → Int32) → Prop} (hn : n ≤ 8) (hm : most ≤ 7) (hl : least ≤ 4096) (hv : seen = changes → gVh (fun k j => cells (6 * k + j)) n most h)
    (hQ1 : ∀ h' p, gVh (fun k j => cells (6 * k + j)) n most h' → least ≤ p → p < 4096 → gfull (fun k j => cells (6 * k + j)) n most p = true → (∀ q, least ≤ q → q < p → ¬ gfull (fun k j => cells (6 * k + j)) n most q = true) → Q (nI p) changes h')
    (hQ2 : ∀ h', gVh (fun k j => cells (6 * k + j)) n most h' → (∀ q, least ≤ q → q < 4096 → ¬ gfull (fun k j => cells (6 * k + j)) n most q = true) → Q (-1) changes h') : p_X5_pointFrom seen h (nI n) (nI most) changes cells (nI least) Q := by
  unfold p_X5_pointFrom
  refine s_X5_lookAt hn hm hv (fun h' hh => s_X9_all hn ?_)
  refine gi1_inv (4096 - least) (fun i a => a = nI (least + i) ∧ ∀ q, least ≤ q → q < least + i → ¬ gfull (fun k j => cells (6 * k + j)) n most q = true) ?_ ?_ ⟨rfl, fun q h1 h2 => by omega⟩
  · rintro i hi X a ⟨rfl, ha⟩ hX
    unfold p_X5_pointFrom_13
    refine ⟨fun g => ?_, fun _ => ⟨vp_in_nI (by omega) (by decide), ?_⟩⟩
    · rw [gl_4095, nI_ltI (by decide) (by omega)] at g; omega
    · rw [nI_clamp (by omega), hh _ (by omega), ghat_full hn]
      refine ⟨fun g => hQ1 h' _ hh (by omega) (by omega) g ha, fun g => hX _ ⟨by rw [gl_1, nI_add]; rfl, fun q h1 h2 => ?_⟩⟩
      by_cases e : q = least + i
      · subst e; exact g
      · exact ha q h1 (by omega)
  · rintro X a ⟨rfl, ha⟩
    unfold p_X5_pointFrom_13
    exact ⟨fun _ => hQ2 h' hh (fun q h1 h2 => ha q h1 (by omega)), fun g => absurd (by rw [gl_4095, nI_ltI (by decide) (by omega)]; omega) g⟩
theorem s_X11_firstPoint {many : Int32} {holds now points : Nat → Int32} {n most : Nat} {Q : Int32 → Int32 → (Nat → Int32) → (Nat → Int32) → Prop} (h0 : now 0 = nI n) (h1 : now 1 = nI most) (hn : n ≤ 8) (hm : most ≤ 7)
    (hQ1 : ∀ m hs ps p, p < 4096 → gfull (fun k j => now (3 + 6 * k + j)) n most p = true → (∀ q, q < p → ¬ gfull (fun k j => now (3 + 6 * k + j)) n most q = true) → Q (nI p) m hs ps)
    (hQ2 : ∀ m hs ps, (∀ q, q < 4096 → ¬ gfull (fun k j => now (3 + 6 * k + j)) n most q = true) → Q (-1000004) m hs ps) : p_X11_firstPoint many holds now points Q := by
  unfold p_X11_firstPoint
  refine s_X11_lays h0 h1 hn hm (fun hs ps hL => ?_)
  have hM := gcnt_le (gbox most) 4096
  generalize hMM : gcnt (gbox most) 4096 = M at hM
  have key : ∀ k, k < M → ∀ q, q < 4096 → gbox most q = true → gcnt (gbox most) q = k → (hs k = nI (2 ^ n - 1) ↔ gfull (fun k j => now (3 + 6 * k + j)) n most q = true) := by
    intro k hk q hq hb e
    subst e
    rw [(hL q hq hb).1]
    have a1 := gmask_lt (fun k j => now (3 + 6 * k + j)) n q
    have a2 := gm_p2 n hn
    rw [nI_eq (by omega) (by omega)]
    unfold gfull
    rw [hb]
    simp
  refine gi2_inv M (fun i a b => b.toInt = (M : Int) - 1 - i ∧ ((a = -1000004 ∧ ∀ k, M - i ≤ k → k < M → ¬ hs k = nI (2 ^ n - 1)) ∨ ∃ k, M - i ≤ k ∧ k < M ∧ hs k = nI (2 ^ n - 1) ∧ a = ps k ∧ ∀ k', M - i ≤ k' → k' < k → ¬ hs k' = nI (2 ^ n - 1))) ?_ ?_ ⟨?_, Or.inl ⟨rfl, fun k g1 g2 => by omega⟩⟩
  · rintro i hi X a b ⟨hb, ha⟩ hX
    have eb : b = nI (M - 1 - i) := by
      apply Int32.toInt_inj.mp
      rw [hb, nI_toInt (by omega)]
      omega
    have hstep : (nI (M - 1 - i) + (-1 : Int32)).toInt = (M : Int) - 1 - (i + 1 : Nat) := by
      rw [Int32.toInt_add, nI_toInt (by omega)]
      rw [show (-1 : Int32).toInt = -1 from rfl, gm_bm (by omega) (by omega)]
      omega
    subst eb
    unfold p_X11_firstPoint_14 p_X11_firstPoint_41
    refine ⟨fun g => ?_, fun _ => ⟨vp_in_nI (by omega) (by decide), s_X11_all h0 hn ?_⟩⟩
    · rw [Int32.lt_iff_toInt_lt, hb] at g
      have : (0 : Int32).toInt = 0 := rfl
      omega
    · rw [nI_clamp (by omega)]
      refine ⟨fun g => ⟨vp_in_nI (by omega) (by decide), hX _ _ ⟨hstep, Or.inr ⟨M - 1 - i, by omega, by omega, g, rfl, fun k' g1 g2 => by omega⟩⟩⟩, fun g => hX _ _ ⟨hstep, ?_⟩⟩
      rcases ha with ⟨rfl, ha⟩ | ⟨k, k1, k2, k3, k4, k5⟩
      · refine Or.inl ⟨rfl, fun k g1 g2 => ?_⟩
        by_cases e : k = M - 1 - i
        · subst e; exact g
        · exact ha k (by omega) g2
      · refine Or.inr ⟨k, by omega, k2, k3, k4, fun k' g1 g2 => ?_⟩
        by_cases e : k' = M - 1 - i
        · subst e; exact g
        · exact k5 k' (by omega) g2
  · rintro X a b ⟨hb, ha⟩
    unfold p_X11_firstPoint_14
    refine ⟨fun _ => ?_, fun g => absurd (by rw [Int32.lt_iff_toInt_lt, hb]; show _ < (0 : Int); omega) g⟩
    rcases ha with ⟨rfl, ha⟩ | ⟨k, -, k2, k3, rfl, k5⟩
    · refine hQ2 _ _ _ (fun q hq hf => ?_)
      have hb : gbox most q = true := by
        unfold gfull at hf
        simp only [Bool.and_eq_true] at hf
        exact hf.1
      have hlt : gcnt (gbox most) q < M := by rw [← hMM]; exact gcnt_lt _ hq hb
      exact ha _ (by omega) hlt ((key _ hlt q hq hb rfl).mpr hf)
    · obtain ⟨q, q1, q2, q3⟩ := gcnt_sur (gbox most) 4096 k (by rw [hMM]; exact k2)
      rw [← q3, (hL q q1 q2).2]
      refine hQ1 _ _ _ q q1 ((key k k2 q q1 q2 q3).mp k3) (fun q' hq' hf => ?_)
      have hb : gbox most q' = true := by
        unfold gfull at hf
        simp only [Bool.and_eq_true] at hf
        exact hf.1
      have hlt := gcnt_lt (gbox most) hq' hb
      exact k5 (gcnt (gbox most) q') (by omega) (by omega) ((key _ (by omega) q' (by omega) hb rfl).mpr hf)
  · by_cases hM0 : M = 0
    · subst hM0; decide
    · rw [gl_1, pk_sub (by omega), nI_toInt (by omega)]
      omega
