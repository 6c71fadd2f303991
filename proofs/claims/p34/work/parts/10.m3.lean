/-! how many points, the first -/
theorem gl_4095 : (4095 : Int32) = nI 4095 := rfl
theorem gl_4096 : (4096 : Int32) = nI 4096 := rfl
theorem gcnt_s {f : Nat → Bool} {i : Nat} (h : f i = true) : gcnt f (i + 1) = gcnt f i + 1 := by
  show gcnt f i + _ = _
  rw [if_pos h]
theorem gcnt_n {f : Nat → Bool} {i : Nat} (h : ¬ f i = true) : gcnt f (i + 1) = gcnt f i := by
  show gcnt f i + _ = _
  rw [if_neg h]; rfl
theorem gcnt_gfo (f : Nat → Bool) (N : Nat) : gfo (fun p a => if f p = true then a + 1 else a) 0 N = gcnt f N := by
  induction N with
  | zero => rfl
  | succ N ih =>
    show (if f N = true then _ else _) = gcnt f N + _
    rw [ih]
    split <;> rfl
/-- each number below the count is that of a point -/
theorem gcnt_sur (f : Nat → Bool) : ∀ N k, k < gcnt f N → ∃ q, q < N ∧ f q = true ∧ gcnt f q = k := by
  intro N
  induction N with
  | zero => intro k h; exact absurd h (Nat.not_lt_zero k)
  | succ N ih =>
    intro k h
    by_cases hk : k < gcnt f N
    · obtain ⟨q, h1, h2, h3⟩ := ih k hk
      exact ⟨q, by omega, h2, h3⟩
    · by_cases hf : f N = true
      · rw [gcnt_s hf] at h
        exact ⟨N, by omega, hf, by omega⟩
      · rw [gcnt_n hf] at h
        exact absurd h hk
theorem s_X5_pointCount {seen changes : Int32} {h cells : Nat → Int32} {n most : Nat} {Q : Int32 → Int32 → (Nat → Int32) → Prop} (hn : n ≤ 8) (hm : most ≤ 7) (hv : seen = changes → gVh (fun k j => cells (6 * k + j)) n most h) (hQ : ∀ h', gVh (fun k j => cells (6 * k + j)) n most h' → Q (nI (gcnt (gfull (fun k j => cells (6 * k + j)) n most) 4096)) changes h') : p_X5_pointCount seen h (nI n) (nI most) changes cells Q := by
  unfold p_X5_pointCount
  refine s_X5_lookAt hn hm hv (fun h' hh => s_X9_all hn ?_)
  refine gi2_inv 4096 (fun i a b => b = nI i ∧ a = nI (gcnt (gfull (fun k j => cells (6 * k + j)) n most) i)) ?_ ?_ ⟨rfl, rfl⟩
  · rintro i hi X a b ⟨rfl, rfl⟩ hX
    unfold p_X5_pointCount_15 p_X5_pointCount_37
    refine ⟨fun g => ?_, fun _ => ⟨vp_in_nI hi (by decide), ?_⟩⟩
    · rw [gl_4095, nI_ltI (by decide) (by omega)] at g; omega
    · rw [nI_clamp (by omega), hh i hi, ghat_full hn]
      exact ⟨fun g => hX _ _ ⟨by rw [gl_1, nI_add], by rw [gcnt_s g, gl_1, nI_add]⟩, fun g => hX _ _ ⟨by rw [gl_1, nI_add], by rw [gcnt_n g]⟩⟩
  · rintro X a b ⟨rfl, rfl⟩
    unfold p_X5_pointCount_15
    exact ⟨fun _ => hQ h' hh, fun g => absurd (by rw [gl_4095, nI_ltI (by decide) (by decide)]; omega) g⟩
/-- how many laid points a set lets through -/
theorem gby {C : Nat → Nat → Int32} {n most : Nat} {hs ps : Nat → Int32} (hL : gLy C n most hs ps) (set : Int32) (f : Nat → Bool) (hf : ∀ q, q < 4096 → (f q = true ↔ gbox most q = true ∧ nI (gmask C n q) &&& set = set)) : gfo (fun k a => if hs k &&& set = set then a + 1 else a) 0 (gcnt (gbox most) 4096) = gcnt f 4096 := by
  have h1 := gfo_box (gbox most) (fun _ m (a : Nat) => if m &&& set = set then a + 1 else a) hs ps (fun q => nI (gmask C n q)) 4096 hL 0
  rw [h1, ← gcnt_gfo]
  refine gfo_congr 0 4096 (fun i hi x => ?_)
  by_cases hb : gbox most i = true
  · rw [if_pos hb]
    by_cases hc : nI (gmask C n i) &&& set = set
    · rw [if_pos hc, if_pos ((hf i hi).mpr ⟨hb, hc⟩)]
    · rw [if_neg hc, if_neg (fun z => hc ((hf i hi).mp z).2)]
  · rw [if_neg hb, if_neg (fun z => hb ((hf i hi).mp z).1)]
theorem gfull_and {C : Nat → Nat → Int32} {n most q : Nat} (hn : n ≤ 8) : gfull C n most q = true ↔ gbox most q = true ∧ nI (gmask C n q) &&& nI (2 ^ n - 1) = nI (2 ^ n - 1) := by
  rw [gm_and_all n hn _ (gmask_lt C n q)]
  unfold gfull
  simp
theorem s_X5_pointFrom {seen changes : Int32} {h cells : Nat → Int32} {n most least : Nat} {Q : Int32 → Int32 → (Nat → Int32) → Prop} (hn : n ≤ 8) (hm : most ≤ 7) (hl : least ≤ 4096) (hv : seen = changes → gVh (fun k j => cells (6 * k + j)) n most h)
    (hQ1 : ∀ h' p, gVh (fun k j => cells (6 * k + j)) n most h' → least ≤ p → p < 4096 → gfull (fun k j => cells (6 * k + j)) n most p = true → (∀ q, least ≤ q → q < p → ¬ gfull (fun k j => cells (6 * k + j)) n most q = true) → Q (nI p) changes h')
    (hQ2 : ∀ h', gVh (fun k j => cells (6 * k + j)) n most h' → (∀ q, least ≤ q → q < 4096 → ¬ gfull (fun k j => cells (6 * k + j)) n most q = true) → Q (-1) changes h') : p_X5_pointFrom seen h (nI n) (nI most) changes cells (nI least) Q := by
  unfold p_X5_pointFrom
  refine s_X5_lookAt hn hm hv (fun h' hh => s_X9_all hn ?_)
  refine gi1_inv (4096 - least) (fun i a => a = nI (least + i) ∧ ∀ q, least ≤ q → q < least + i → ¬ gfull (fun k j => cells (6 * k + j)) n most q = true) ?_ ?_ ⟨rfl, fun q h1 h2 => by omega⟩
  · rintro i hi X a ⟨rfl, ha⟩ hX
    unfold p_X5_pointFrom_13
    refine ⟨fun g => ?_, fun _ => ⟨vp_in_nI (by omega) (by decide), ?_⟩⟩
    · rw [gl_4095, nI_ltI (by decide) (by omega)] at g; omega
    · rw [nI_clamp (by omega), hh _ (by omega), ghat_full hn]
      refine ⟨fun g => hQ1 h' _ hh (by omega) (by omega) g ha, fun g => hX _ ⟨by rw [gl_1, nI_add]; rfl, fun q h1 h2 => ?_⟩⟩
      by_cases e : q = least + i
      · subst e; exact g
      · exact ha q h1 (by omega)
  · rintro X a ⟨rfl, ha⟩
    unfold p_X5_pointFrom_13
    exact ⟨fun _ => hQ2 h' hh (fun q h1 h2 => ha q h1 (by omega)), fun g => absurd (by rw [gl_4095, nI_ltI (by decide) (by omega)]; omega) g⟩
