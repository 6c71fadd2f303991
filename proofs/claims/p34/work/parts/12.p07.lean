/-! left: without what is spared there are most; a core leaves none, by each one less some -/
theorem gcnt_0 {f : Nat → Bool} (h : ∀ q, q < 4096 → ¬ f q = true) : gcnt f 4096 = 0 := gcnt_z.mpr h
theorem gcnt_1 {f : Nat → Bool} {q : Nat} (hq : q < 4096) (h : f q = true) : 0 < gcnt f 4096 := by
  have := mt gcnt_z.mp (fun z => z q hq h)
  omega
theorem gN31 (f : Nat → Bool) : gcnt f 4096 < 2 ^ 31 := Nat.lt_of_le_of_lt (gcnt_le _ _) (by decide)
theorem gbest_spec (t : Nat → Nat) : ∀ i, (∀ j, j ≤ i → t j ≤ t (gbest t (i + 1))) ∧ ∀ j, j < gbest t (i + 1) → t j < t (gbest t (i + 1)) := by
  intro i
  induction i with
  | zero =>
    have e : gbest t 1 = 0 := by
      show (if t 0 ≤ t 0 then 0 else 0) = 0
      split <;> rfl
    rw [e]
    exact ⟨fun j hj => by rw [show j = 0 by omega]; exact Nat.le_refl _, fun j hj => absurd hj (Nat.not_lt_zero j)⟩
  | succ i ih =>
    obtain ⟨h1, h2⟩ := ih
    show (∀ j, j ≤ i + 1 → t j ≤ t (if t (i + 1) ≤ t (gbest t (i + 1)) then gbest t (i + 1) else i + 1)) ∧ ∀ j, j < (if t (i + 1) ≤ t (gbest t (i + 1)) then gbest t (i + 1) else i + 1) → t j < t (if t (i + 1) ≤ t (gbest t (i + 1)) then gbest t (i + 1) else i + 1)
    by_cases e : t (i + 1) ≤ t (gbest t (i + 1))
    · rw [if_pos e]
      refine ⟨fun j hj => ?_, h2⟩
      by_cases z : j = i + 1
      · rw [z]; exact e
      · exact h1 j (by omega)
    · rw [if_neg e]
      refine ⟨fun j hj => ?_, fun j hj => ?_⟩
      · by_cases z : j = i + 1
        · rw [z]; exact Nat.le_refl _
        · have := h1 j (by omega)
          omega
      · have := h1 j (by omega)
        omega
theorem gcore_spec (L : Nat → Bool) {M : Nat} (hM : L M = true) : ∀ i, i ≤ M → L (gcore L M i) = true ∧ ∀ s, M - i < s → s ≤ M → L s = true → gbs (gcore L M i) 15 ≤ gbs s 15 := by
  intro i
  induction i with
  | zero => intro _; exact ⟨hM, fun s h1 h2 => by omega⟩
  | succ i ih =>
    intro hi
    obtain ⟨h1, h2⟩ := ih (by omega)
    show L (if gbs (M - i) 15 ≤ gbs (gcore L M i) 15 ∧ L (M - i) = true then M - i else gcore L M i) = true ∧ ∀ s, M - (i + 1) < s → s ≤ M → L s = true → gbs (if gbs (M - i) 15 ≤ gbs (gcore L M i) 15 ∧ L (M - i) = true then M - i else gcore L M i) 15 ≤ gbs s 15
    by_cases e : gbs (M - i) 15 ≤ gbs (gcore L M i) 15 ∧ L (M - i) = true
    · rw [if_pos e]
      refine ⟨e.2, fun s z1 z2 z3 => ?_⟩
      by_cases z : s = M - i
      · rw [z]; exact Nat.le_refl _
      · exact Nat.le_trans e.1 (h2 s (by omega) z2 z3)
    · rw [if_neg e]
      refine ⟨h1, fun s z1 z2 z3 => ?_⟩
      by_cases z : s = M - i
      · subst z
        rcases Nat.lt_or_ge (gbs (gcore L M i) 15) (gbs (M - i) 15) with y | y
        · omega
        · exact absurd ⟨y, z3⟩ e
      · exact h2 s (by omega) z2 z3
theorem gm_less : ∀ b, b < 256 → ∀ k, k < 8 → b / 2 ^ k % 2 = 1 → nI b &&& (((1 : Int32) <<< (nI k &&& 31)) ^^^ (-1 : Int32)) = nI (b - 2 ^ k) := by decide +kernel
theorem gbs_less : ∀ b, b < 256 → ∀ k, k < 8 → b / 2 ^ k % 2 = 1 → gbs (b - 2 ^ k) 15 < gbs b 15 := by decide +kernel
/-- what is kept as an image -/
def gKp (n mo : Nat) (C : Nat → Nat → Int32) (has kk ks km kd : Int32) (kc : Nat → Int32) : Prop := has = 1 ∧ gTc n mo C kc ks km ∧ (∃ u, u ≤ 8 ∧ kk = nI u) ∧ ∃ d, d < 2147483648 ∧ kd = nI d
section KT
variable {c n mo u : Nat} {C : Nat → Nat → Int32} {cells past h w kc kp held tally : Nat → Int32} {known size most draw changes seen has kk ks km kd : Int32}
theorem gz_n1 {n : Nat} (h : 1 ≤ n) : nI n - (1 : Int32) = nI (n - 1) := by rw [gl_1, pk_sub h]
theorem gLN_full {C : Nat → Nat → Int32} {n mo : Nat} (hn : n ≤ 8) (h : ∀ q, q < 4096 → ¬ gfull C n mo q = true) : gLN C n mo (2 ^ n - 1) = true := by
  have hlt : 2 ^ n - 1 < 2 ^ n := Nat.sub_lt (Nat.two_pow_pos n) (by decide)
  rw [gLN_H hlt]
  intro q hq hb z
  have hbits := (gm_allbit hlt).mp rfl
  exact h q hq ((gfull_H hn).mpr ⟨hb, fun i hi => z i hi (hbits i hi)⟩)
/-- the second part: a core -/
theorem lx_left2 {b : Nat} {Q : Int32 → Int32 → Int32 → Int32 → Int32 → Int32 → (Nat → Int32) → (Nat → Int32) → Int32 → (Nat → Int32) → (Nat → Int32) → (Nat → Int32) → Prop} (hT : gTc n mo C cells size most) (hw : gLw n mo C w) (hu : u ≤ 8) (hkn : known = nI u) (hz : gZ c n mo cells changes seen h) (hc : c + 200 < 2 ^ 31) (hK : gKp n mo C has kk ks km kd kc) (hb : b < 2 ^ n) (hL : gLN C n mo b = true) (hmin : ∀ s, 1 ≤ s → s < 2 ^ n → gLN C n mo s = true → gbs b 15 ≤ gbs s 15)
    (hQ : ∀ v c' known' size' most' draw' changes' cells' past' seen' h' held' tally', v ≤ 8 → known' = nI v → c' ≤ c + 90 → gTc n mo C cells' size' most' → gZ c' n mo cells' changes' seen' h' → Q 1 known' size' most' draw' changes' cells' past' seen' h' held' tally') : p_L_left_214 has known size most draw changes cells past kk ks km kd kc kp seen h held tally w (nI 0) (nI b) 1 Q := by
  have hn := hT.1
  have hb256 : b < 256 := Nat.lt_of_lt_of_le hb (gm_p2 n hn)
  obtain ⟨hh, hTk, ⟨ku, hku, rfl⟩, -⟩ := hK
  unfold p_L_left_214
  refine ⟨g10, fun _ => ⟨fun _ => ?_, fun y => absurd (by decide) y⟩⟩
  refine lx_only hT hw hu hkn hz (by omega) hb (fun v1 c1 n1 C1 ch1 ce1 pa1 se1 h1 N1 hv1 hc1 hT1 hz1 hN1 hN1e => ⟨fun _ => ?_, fun y => absurd ?_ y⟩)
  · refine k_restore hh hTk (fun ce2 pa2 hT2 => ⟨fun _ => ?_, fun y => absurd rfl y⟩)
    have hz2 : gZ (c1 + 1) n mo ce2 (ch1 + 1) se1 h1 := hz1.up1 (by omega)
    unfold p_L_left_251
    refine gi11_ix (fun i a b' kn sz ms dr ch ce pa se ho => ∃ k v c', i + k = n ∧ b' = nI k ∧ a = 1 ∧ v ≤ 8 ∧ kn = nI v ∧ c' ≤ c + 9 + 9 * k ∧ gTc n mo C ce sz ms ∧ gZ c' n mo ce ch se ho) ?_ n ⟨0, ku, c1 + 1, rfl, rfl, rfl, hku, rfl, by omega, hT2, hz2⟩
    rintro i X a b' kn sz ms dr ch ce pa se ho ⟨k, v, c', hi, rfl, rfl, hv8, rfl, hc', hT', hz'⟩ hX
    unfold p_L_left_256
    refine ⟨gx_in 0 rfl (by decide) (by decide), ?_⟩
    rw [gcl_0, hw.1]
    have last : p_L_left_317 (nI v) sz ms dr ch ce pa se ho held tally w 1 Q := by
      unfold p_L_left_317
      exact ⟨g10, fun _ => lx_is hT' hw ⟨g10, fun _ => hQ v c' _ _ _ _ _ _ _ _ _ _ _ hv8 rfl (by omega) hT' hz'⟩⟩
    refine ⟨fun _ => last, fun y => ⟨g10, fun _ => ?_⟩⟩
    rw [nI_leI (by omega) (by omega)] at y
    have hk : k < n := by omega
    rw [gm_bit (by omega) (by omega)]
    refine ⟨fun _ => ?_, fun g => ?_⟩
    · unfold p_L_left_304 p_L_left_309
      exact hX (i - 1) _ _ _ _ _ _ _ _ _ _ _ (by omega) ⟨k + 1, v, c', by omega, by rw [gl_1, nI_add], rfl, hv8, rfl, by omega, hT', hz'⟩
    · rw [gl_0, nI_eq (by omega) (by decide)] at g
      have hbit : gbt b k := (gbit2 b k).resolve_left g
      clear g
      have hle : 2 ^ k ≤ b := by
        rcases Nat.lt_or_ge b (2 ^ k) with z | z
        · unfold gbt at hbit
          rw [Nat.div_eq_of_lt z] at hbit; exact absurd hbit (by decide)
        · exact z
      have p2k : 0 < 2 ^ k := Nat.two_pow_pos k
      rw [gm_less b hb256 k (by omega) hbit]
      refine lx_only hT' hw hv8 rfl hz' (by omega) (s := b - 2 ^ k) (by omega) (fun v3 c3 n3 C3 ch3 ce3 pa3 se3 h3 N3 hv3 hc3 hT3 hz3 hN3 hN3e => ⟨fun y => ?_, fun _ => ?_⟩)
      · rw [gl_0, nI_leI (by omega) (by decide)] at y
        have hL3 := hN3e.mp (by omega)
        by_cases e : b - 2 ^ k = 0
        · rw [e] at hL3; exact absurd hL3 gLN_0
        · have := hmin _ (by omega) (by omega) hL3
          have := gbs_less b hb256 k (by omega) hbit
          omega
      · refine k_restore hh hTk (fun ce4 pa4 hT4 => ⟨fun _ => ?_, fun y => absurd rfl y⟩)
        unfold p_L_left_304 p_L_left_309
        exact hX (i - 1) _ _ _ _ _ _ _ _ _ _ _ (by omega) ⟨k + 1, ku, c3 + 1, by omega, by rw [gl_1, nI_add], rfl, hku, rfl, by omega, hT4, hz3.up1 (by omega)⟩
  · rw [gl_0, nI_eq (by omega) (by decide)]
    exact hN1e.mpr hL
theorem lx_left {Q : Int32 → Int32 → Int32 → Int32 → Int32 → Int32 → (Nat → Int32) → (Nat → Int32) → Int32 → (Nat → Int32) → (Nat → Int32) → (Nat → Int32) → Prop} (hT : gTc n mo C cells size most) (hw : gLw n mo C w) (hu : u ≤ 8) (hkn : known = nI u) (hz : gZ c n mo cells changes seen h) (hc : c + 300 < 2 ^ 31) (hK : gKp n mo C has kk ks km kd kc)
    (hQ : ∀ v c' known' size' most' draw' changes' cells' past' seen' h' held' tally', v ≤ 8 → known' = nI v → c' ≤ c + 120 → gTc n mo C cells' size' most' → gZ c' n mo cells' changes' seen' h' → Q 1 known' size' most' draw' changes' cells' past' seen' h' held' tally') : p_L_left has known size most draw changes cells past kk ks km kd kc kp seen h held tally w Q := by
  have hn := hT.1
  have N31 : ∀ f : Nat → Bool, gcnt f 4096 < 2 ^ 31 := fun f => Nat.lt_of_le_of_lt (gcnt_le _ _) (by decide)
  unfold p_L_left
  refine k_count2 hT hz.2.2 (fun h1 g1 => ?_)
  -- what follows the three questions: a loop over all constraints, then the core
  have tail : ∀ (x3 x4 x5 : Int32) (h2 held2 tally2 : Nat → Int32), gVh (fun k j => cells (6 * k + j)) n mo h2 → (∀ k, k < n → ∃ best, x3 = nI best ∧ best < n ∧ x4 = nI (gcnt (gsp C n mo best) 4096) ∧ (∀ j, j < n → gcnt (gsp C n mo j) 4096 ≤ gcnt (gsp C n mo best) 4096) ∧ ∀ j, j < best → gcnt (gsp C n mo j) 4096 < gcnt (gsp C n mo best) 4096) → ((gcnt (gfull C n mo) 4096 = 0 ∧ 0 < n ∧ ∃ b, x5 = nI b ∧ 0 < b ∧ b < 2 ^ n ∧ gLN C n mo b = true ∧ ∀ s, 1 ≤ s → s < 2 ^ n → gLN C n mo s = true → gbs b 15 ≤ gbs s 15) ∨ (0 < gcnt (gfull C n mo) 4096 ∧ x5 = -1000004)) → p_L_left_74 has known size most draw changes cells past kk ks km kd kc kp changes h2 held2 tally2 w (nI (gcnt (gfull C n mo) 4096)) x3 x4 x5 1 Q := by
    intro x3 x4 x5 h2 held2 tally2 g2 hbest hcore
    obtain ⟨hh, hTk, ⟨ku, hku, ekk⟩, -⟩ := id hK
    unfold p_L_left_74
    refine gi11_ix (fun i a b kn sz ms dr ch ce pa se ho => ∃ k v c', i + k = n ∧ b = nI k ∧ a = 1 ∧ v ≤ 8 ∧ kn = nI v ∧ c' ≤ c + 2 * k ∧ gTc n mo C ce sz ms ∧ gZ c' n mo ce ch se ho) ?_ n ⟨0, u, c, rfl, rfl, rfl, hu, hkn, Nat.le_refl _, hT, hz.look g2⟩
    rintro i X a b kn sz ms dr ch ce pa se ho ⟨k, v, c', hi, rfl, rfl, hv8, rfl, hc', hT', hz'⟩ hX
    unfold p_L_left_79
    refine ⟨gx_in 0 rfl (by decide) (by decide), ?_⟩
    rw [gcl_0, hw.1]
    have last : p_L_left_175 has (nI v) sz ms dr ch ce pa kk ks km kd kc kp se ho held2 tally2 w (nI (gcnt (gfull C n mo) 4096)) x5 1 Q := by
      unfold p_L_left_175
      refine ⟨g10, fun _ => ?_⟩
      rcases hcore with ⟨e0, n0, b, rfl, b0, bn, bL, bm⟩ | ⟨e0, rfl⟩
      · rw [e0]
        have b256 : b < 256 := Nat.lt_of_lt_of_le bn (gm_p2 n hn)
        refine ⟨fun _ => ⟨fun y => ?_, fun _ => ⟨gx_in 0 rfl (by decide) (by decide), ?_⟩⟩, fun y => absurd (by decide) y⟩
        · rw [gl_0, nI_leI (by omega) (by decide)] at y; omega
        · rw [gcl_0, hw.1, gm_1sl n (by omega)]
          refine ⟨fun y => ?_, fun _ => ?_⟩
          · rw [nI_leI (Nat.lt_of_le_of_lt (gm_p2 n hn) (by decide)) (by omega)] at y; omega
          · unfold p_L_left_209
            exact lx_left2 hT' hw hv8 rfl hz' (by omega) hK bn bL bm (fun v1 c1 kn1 sz1 ms1 dr1 ch1 ce1 pa1 se1 h1 he1 ta1 q1 q2 q3 q4 q5 => hQ v1 c1 kn1 sz1 ms1 dr1 ch1 ce1 pa1 se1 h1 he1 ta1 q1 q2 (by omega) q4 q5)
      · refine ⟨fun y => ?_, fun _ => ⟨fun _ => ?_, fun y => absurd rfl y⟩⟩
        · rw [gl_0, nI_leI (N31 _) (by decide)] at y; omega
        · unfold p_L_left_209 p_L_left_214
          refine ⟨g10, fun _ => ⟨fun y => ?_, fun _ => ⟨gm_nar1, hQ v c' _ _ _ _ _ _ _ _ _ _ _ hv8 rfl (by omega) hT' hz'⟩⟩⟩
          rw [gl_0, nI_leI (N31 _) (by decide)] at y; omega
    refine ⟨fun _ => last, fun y => ⟨g10, fun _ => ?_⟩⟩
    rw [nI_leI (by omega) (by omega)] at y
    have hk : k < n := by omega
    obtain ⟨best, rfl, hbn, rfl, m1, m2⟩ := hbest k hk
    refine k_drop hT' hv8 rfl hk (fun ce1 pa1 hT1 => ⟨gx_in 0 rfl (by decide) (by decide), ?_⟩)
    rw [gz_n1 (by omega)]
    have hz1 : gZ (c' + 1) (n - 1) mo ce1 (ch + 1) se ho := hz'.up1 (by omega)
    have tk : gcnt (gfull (gdrp C k) (n - 1) mo) 4096 = gcnt (gsp C n mo k) 4096 := gcnt_cg (fun q _ => gfull_drp hn hk q)
    have back : ∀ h3, gVh (fun k j => ce1 (6 * k + j)) (n - 1) mo h3 → p_L_left_154 has (nI (gup v)) (nI (n - 1)) ms dr (ch + 1) ce1 pa1 kk ks km kd kc kp (ch + 1) h3 (nI k) X := fun h3 g3 => by
      unfold p_L_left_154
      refine k_restore hh hTk (fun ce4 pa4 hT4 => ⟨fun _ => ?_, fun y => absurd rfl y⟩)
      unfold p_L_left_167
      exact hX (i - 1) _ _ _ _ _ _ _ _ _ _ _ (by omega) ⟨k + 1, ku, c' + 1 + 1, by omega, by rw [gl_1, nI_add], rfl, hku, ekk, by omega, hT4, (hz1.look g3).up1 (by omega)⟩
    refine ⟨fun _ => ⟨fun e => ?_, fun e => ⟨fun e2 => ?_, fun e2 => ?_⟩⟩, fun y => absurd rfl y⟩
    · rw [nI_eq (by omega) (by omega)] at e
      subst e
      refine k_count2 hT1 hz1.2.2 (fun h3 g3 => ⟨fun _ => back h3 g3, fun y => absurd ?_ y⟩)
      rw [tk]
    · refine k_count2 hT1 hz1.2.2 (fun h3 g3 => ⟨fun y => ?_, fun _ => back h3 g3⟩)
      rw [tk, nI_ltI (N31 _) (N31 _)] at y
      have := m1 k hk
      omega
    · rw [nI_leI (by omega) (by omega)] at e2
      refine k_count2 hT1 hz1.2.2 (fun h3 g3 => ⟨fun y => ?_, fun _ => back h3 g3⟩)
      rw [tk, nI_leI (N31 _) (N31 _)] at y
      have := m2 k (by omega)
      omega
  have full0 : n = 0 → 0 < gcnt (gfull C n mo) 4096 := fun e => by
    have : gfull C n mo 0 = true := (gfull_H hn).mpr ⟨gbox_0 mo, fun i hi => by omega⟩
    exact gcnt_1 (by decide) this
  have coreQ : ∀ (h2 held2 : Nat → Int32) (R : Int32 → Int32 → (Nat → Int32) → (Nat → Int32) → Prop), gVh (fun k j => cells (6 * k + j)) n mo h2 → (∀ x5 h3 held3, gVh (fun k j => cells (6 * k + j)) n mo h3 → ((gcnt (gfull C n mo) 4096 = 0 ∧ 0 < n ∧ ∃ b, x5 = nI b ∧ 0 < b ∧ b < 2 ^ n ∧ gLN C n mo b = true ∧ ∀ s, 1 ≤ s → s < 2 ^ n → gLN C n mo s = true → gbs b 15 ≤ gbs s 15) ∨ (0 < gcnt (gfull C n mo) 4096 ∧ x5 = -1000004)) → R x5 changes h3 held3) → p_X10_core size most changes cells changes h2 held2 R := by
    intro h2 held2 R g2 hR
    refine k_core hT (fun _ => g2) (fun h3 t3 g3 hq => hR _ h3 t3 g3 (Or.inr ⟨?_, rfl⟩)) (fun h3 t3 g3 hq => hR _ h3 t3 g3 (Or.inl ?_))
    · obtain ⟨q, hq, hf⟩ := hq
      exact gcnt_1 hq hf
    · have hno : ∀ q, q < 4096 → ¬ gfull C n mo q = true := fun q hq1 hf => hq ⟨q, hq1, hf⟩
      have e0 := gcnt_z.mpr hno
      have n0 : 0 < n := by
        rcases Nat.eq_zero_or_pos n with z | z
        · have := full0 z; omega
        · exact z
      have hLM := gLN_full hn hno
      have p1 : 1 < 2 ^ n := Nat.one_lt_two_pow (by omega)
      have sp := gcore_spec (gLN C n mo) hLM (2 ^ n - 1) (Nat.le_refl _)
      have le := gcore_le (gLN C n mo) (2 ^ n - 1) (2 ^ n - 1)
      have po := gcore_pos (gLN C n mo) (N := 2 ^ n - 1) (by omega) _ (Nat.le_refl _)
      exact ⟨e0, n0, _, rfl, po, by omega, sp.1, fun s s1 s2 s3 => sp.2 s (by omega) (by omega) s3⟩
  by_cases n0 : n = 0
  · refine k_spareN (w := 0) hT (by decide) n0 (k_spareN (w := 1) hT (by decide) n0 (coreQ h1 held _ g1 (fun x5 h3 held3 g3 hx5 => ⟨gx_in 0 rfl (by decide) (by decide), ?_⟩)))
    rw [gcl_0, hw.1]
    refine ⟨fun _ => ⟨fun _ => ⟨fun _ => tail _ _ x5 h3 held3 _ g3 (fun k hk => by omega) hx5, fun y => absurd rfl y⟩, fun y => absurd rfl y⟩, fun y => absurd (by rw [n0]; rfl) y⟩
  · refine k_spare (w := 0) hT (fun _ => g1) (by decide) n0 (fun h2 t2 g2 hb => ?_)
    rw [if_pos rfl]
    refine k_spare (w := 1) hT (fun _ => g2) (by decide) n0 (fun h3 t3 g3 _ => ?_)
    rw [if_neg (by decide)]
    have bs := gbest_spec (fun j => gcnt (gsp C n mo j) 4096) (n - 1)
    rw [show n - 1 + 1 = n by omega] at bs
    generalize gbest (fun j => gcnt (gsp C n mo j) 4096) n = best at hb bs ⊢
    refine coreQ h3 held _ g3 (fun x5 h4 held4 g4 hx5 => ⟨gx_in 0 rfl (by decide) (by decide), ?_⟩)
    rw [gcl_0, hw.1]
    refine ⟨fun y => absurd y (nI_ne0 (by omega) (by omega)), fun _ => ⟨fun y => absurd y (nI_pos (by omega)), fun _ => ⟨gx_in 0 rfl (by decide) (by decide), fun y => ?_, fun _ => ⟨fun y => ?_, fun _ => tail _ _ x5 h4 held4 _ g4 (fun k hk => ⟨best, rfl, hb, rfl, fun j hj => bs.1 j (by omega), bs.2⟩) hx5⟩⟩⟩⟩
    · rw [nI_leI (by omega) (by omega)] at y; omega
    · rw [nI_ltI (N31 _) (N31 _)] at y
      have : gcnt (gfull C n mo) 4096 ≤ gcnt (gsp C n mo best) 4096 := gcnt_sub (fun q _ hf => (gsp_H hn hb).mpr ⟨gfull_box hf, fun i hi _ => ((gfull_H hn).mp hf).2 i hi⟩)
      omega
end KT
