/-! stretched: there is a point, not by less -/
theorem gstr_spec (f : Nat → Bool) (l : Nat → Int) : ∀ N, (gstr f l N = 100 ∨ ∃ q, q < N ∧ f q = true ∧ gstr f l N = l q) ∧ ∀ q, q < N → f q = true → (gstr f l N).natAbs ≤ (l q).natAbs := by
  intro N
  induction N with
  | zero => exact ⟨Or.inl rfl, fun q hq => absurd hq (Nat.not_lt_zero q)⟩
  | succ N ih =>
    obtain ⟨h1, h2⟩ := ih
    by_cases e : f N = true
    · rw [gstr_t e]
      by_cases g : gnr (l N) (gstr f l N)
      · rw [gst_t g]
        refine ⟨Or.inr ⟨N, by omega, e, rfl⟩, fun q hq hf => ?_⟩
        unfold gnr at g
        by_cases z : q = N
        · rw [z]; exact Nat.le_refl _
        · have := h2 q (by omega) hf
          omega
      · rw [gst_f g]
        refine ⟨?_, fun q hq hf => ?_⟩
        · rcases h1 with h1 | ⟨q, a, b, d⟩
          · exact Or.inl h1
          · exact Or.inr ⟨q, by omega, b, d⟩
        · unfold gnr at g
          by_cases z : q = N
          · rw [z]; omega
          · exact h2 q (by omega) hf
    · rw [gstr_f e]
      refine ⟨?_, fun q hq hf => ?_⟩
      · rcases h1 with h1 | ⟨q, a, b, d⟩
        · exact Or.inl h1
        · exact Or.inr ⟨q, by omega, b, d⟩
      · by_cases z : q = N
        · rw [z] at hf; exact absurd hf e
        · exact h2 q (by omega) hf
theorem glk_0 {kd : Nat} {s : Int} (hk : kd ≤ 4) : glk kd s = 0 ↔ ghi kd s := by
  rcases (show kd = 0 ∨ kd = 1 ∨ kd = 2 ∨ kd = 3 ∨ kd = 4 by omega) with rfl | rfl | rfl | rfl | rfl
  · show (if s < 0 then -s else 0) = 0 ↔ 0 ≤ s
    split <;> omega
  · show (if 0 < s then -s else 0) = 0 ↔ s ≤ 0
    split <;> omega
  · show -s = 0 ↔ s = 0
    omega
  · show (if s = 0 then (1 : Int) else 0) = 0 ↔ ¬ s = 0
    split <;> omega
  · show s % 2 = 0 ↔ s % 2 = 0
    exact Iff.rfl
theorem glk_to {kd : Nat} {s : Int} (hk : kd ≤ 4) : ghi kd (s + glk kd s) := by
  rcases (show kd = 0 ∨ kd = 1 ∨ kd = 2 ∨ kd = 3 ∨ kd = 4 by omega) with rfl | rfl | rfl | rfl | rfl
  · show 0 ≤ s + (if s < 0 then -s else 0)
    split <;> omega
  · show s + (if 0 < s then -s else 0) ≤ 0
    split <;> omega
  · show s + -s = 0
    omega
  · show ¬ s + (if s = 0 then (1 : Int) else 0) = 0
    split <;> omega
  · show (s + s % 2) % 2 = 0
    omega
theorem gsum_put {C : Nat → Nat → Int32} {c : Nat} {v d : Int32} (p : Nat) (h : v = C c 4 + d) : gsum (gput C c 4 v c) p = gsum (C c) p + d := by
  unfold gsum gput
  rw [if_pos rfl, pk_un (by decide), pk_un (by decide), pk_un (by decide), pk_un (by decide), pk_us, h]
  exact (Int32.add_assoc _ _ _).symm
section KX
variable {c n mo u : Nat} {C : Nat → Nat → Int32} {cells past h w kc kp : Nat → Int32} {known size most draw changes seen has kk ks km kd : Int32}
theorem gm_addI {x y : Int32} (hx : -500 ≤ x.toInt ∧ x.toInt ≤ 500) (hy : -500 ≤ y.toInt ∧ y.toInt ≤ 500) : (x + y).toInt = x.toInt + y.toInt := by
  rw [Int32.toInt_add, gm_bm (by omega) (by omega)]
theorem gm_subI {x y : Int32} (hx : -500 ≤ x.toInt ∧ x.toInt ≤ 500) (hy : -500 ≤ y.toInt ∧ y.toInt ≤ 500) : (x - y).toInt = x.toInt - y.toInt := by
  rw [Int32.toInt_sub, gm_bm (by omega) (by omega)]
/-- a constraint's rest moved by d: which points are full then -/
theorem gfull_put {k ki : Nat} {d v : Int32} {q : Nat} (hn : n ≤ 8) (hR : gRC n C) (hk : k < n) (hki : ki ≤ 4) (hkd : C k 5 = nI ki) (hv : v = C k 4 + d) (hd : -200 ≤ d.toInt ∧ d.toInt ≤ 200) : gfull (gput C k 4 v) n mo q = true ↔ gsp C n mo k q = true ∧ ghi ki ((gsum (C k) q).toInt + d.toInt) := by
  have sb := gsum_bd (p := q) (hR k hk).1 (hR k hk).2.1
  have key : gH (gput C k 4 v) k q ↔ ghi ki ((gsum (C k) q).toInt + d.toInt) := by
    unfold gH
    rw [gsum_put q hv]
    have e5 : gput C k 4 v k 5 = nI ki := by
      unfold gput
      rw [if_pos rfl, pk_un (by decide), hkd]
    rw [e5, gh_iff hki, gm_addI (by omega) (by omega)]
  have oth : ∀ i, i ≠ k → (gH (gput C k 4 v) i q ↔ gH C i q) := fun i hi => by
    unfold gH gput
    rw [if_neg hi]
  rw [gfull_H hn, gsp_H hn hk]
  constructor
  · rintro ⟨a, b⟩
    exact ⟨⟨a, fun i hi hik => (oth i hik).mp (b i hi)⟩, key.mp (b k hk)⟩
  · rintro ⟨⟨a, b⟩, d⟩
    refine ⟨a, fun i hi => ?_⟩
    by_cases e : i = k
    · rw [e]; exact key.mpr d
    · exact (oth i e).mpr (b i hi e)
theorem gfull_gsp {k ki q : Nat} (hn : n ≤ 8) (hk : k < n) (hki : ki ≤ 4) (hkd : C k 5 = nI ki) : gfull C n mo q = true ↔ gsp C n mo k q = true ∧ ghi ki (gsum (C k) q).toInt := by
  have key : gH C k q ↔ ghi ki (gsum (C k) q).toInt := by
    unfold gH
    rw [hkd, gh_iff hki]
  rw [gfull_H hn, gsp_H hn hk]
  constructor
  · rintro ⟨a, b⟩
    exact ⟨⟨a, fun i hi _ => b i hi⟩, key.mp (b k hk)⟩
  · rintro ⟨⟨a, b⟩, d⟩
    refine ⟨a, fun i hi => ?_⟩
    by_cases e : i = k
    · rw [e]; exact key.mpr d
    · exact b i hi e
/-- the part with a stretch of b, not 0, and what is one nearer -/
theorem lx_str_136 {k ki v : Nat} {b : Int} {r near x8 : Int32} {K : Int32 → Int32 → Int32 → Int32 → Int32 → Int32 → Int32 → (Nat → Int32) → (Nat → Int32) → Int32 → (Nat → Int32) → Prop} (hT : gTc n mo C cells size most) (hu : u ≤ 8) (hkn : known = nI u) (hz : gZ c n mo cells changes seen h) (hc : c + 200 < 2 ^ 31) (hK : gKp n mo C has kk ks km kd kc) (hk : k < n) (hki : ki ≤ 4) (hkd : C k 5 = nI ki) (hb : -100 < b ∧ b < 100 ∧ b ≠ 0) (hr : r.toInt = b) (h8 : x8 = C k 4 + r) (hnear : near = C k 4 + r + (if b < 0 then 1 else -1)) (hpt : ∃ q, q < 4096 ∧ gsp C n mo k q = true ∧ b = glk ki (gsum (C k) q).toInt) (hmin : ∀ q, q < 4096 → gsp C n mo k q = true → b.natAbs ≤ (glk ki (gsum (C k) q).toInt).natAbs)
    (hX : ∀ v c' known' size' most' draw' changes' cells' past' seen' h', v ≤ 8 → known' = nI v → c' ≤ c + 4 → gTc n mo C cells' size' most' → gZ c' n mo cells' changes' seen' h' → K 1 (nI k + (2 : Int32)) known' size' most' draw' changes' cells' past' seen' h') : p_L_stretched_136 has known size most draw changes cells past kk ks km kd kc kp seen h (nI k) (C k 4) x8 near K := by
  have hn := hT.1
  have hR := hT.2.2.2.2.2.2
  have c4 := (hR k hk).2.1
  obtain ⟨hh, hTk, ⟨ku, hku, rfl⟩, -⟩ := hK
  have e8 : x8.toInt = (C k 4).toInt + b := by rw [h8, gm_addI (by omega) (by omega), hr]
  have z99 : (99 : Int32).toInt = 99 := rfl
  have zm99 : (-99 : Int32).toInt = -99 := rfl
  -- the end: back to what is kept
  have fin : ∀ v1 c1 kn1 sz1 ms1 dr1 ch1 ce1 pa1 se1 ho1 n1 mo1, v1 ≤ 8 → kn1 = nI v1 → c1 ≤ c + 3 → gZ c1 n1 mo1 ce1 ch1 se1 ho1 → p_L_stretched_211 has kn1 sz1 ms1 dr1 ch1 ce1 pa1 (nI ku) ks km kd kc kp se1 ho1 (nI k) K := by
    intro v1 c1 kn1 sz1 ms1 dr1 ch1 ce1 pa1 se1 ho1 n1 mo1 hv1 hkn1 hc1 hz1
    unfold p_L_stretched_211 p_L_stretched_216
    refine ⟨g10, fun _ => k_restore hh hTk (fun ce2 pa2 hT2 => ⟨fun _ => ?_, fun y => absurd rfl y⟩)⟩
    unfold p_L_stretched_234 p_L_stretched_235
    exact hX ku (c1 + 1) _ _ _ _ _ _ _ _ _ hku rfl (by omega) hT2 (hz1.up1 (by omega))
  unfold p_L_stretched_136
  refine ⟨fun _ => fin u c _ _ _ _ _ _ _ _ _ _ _ hu hkn (by omega) hz, fun g1 => ⟨fun _ => fin u c _ _ _ _ _ _ _ _ _ _ _ hu hkn (by omega) hz, fun g2 => ?_⟩⟩
  rw [Int32.lt_iff_toInt_lt, z99] at g1
  rw [Int32.lt_iff_toInt_lt, zm99] at g2
  have hne : ¬ C k 4 = x8 := fun y => by
    have := congrArg Int32.toInt y
    omega
  refine k_change (j := 4) hT hu hkn hk (by decide) ⟨fun y => absurd y (by decide), fun _ => by omega, fun y => absurd y (by decide)⟩ (fun y => absurd y hne) (fun _ ce1 pa1 hT1 => ⟨fun _ => ?_, fun y => absurd rfl y⟩)
  have hz1 : gZ (c + 1) n mo ce1 (changes + 1) seen h := hz.up1 (by omega)
  refine k_count2 hT1 hz1.2.2 (fun h2 g2' => ?_)
  have hz2 := hz1.look g2'
  have pos : 0 < gcnt (gfull (gput C k 4 x8) n mo) 4096 := by
    obtain ⟨q, hq, hs, eb⟩ := hpt
    refine gcnt_1 hq ((gfull_put hn hR hk hki hkd h8 (by omega)).mpr ⟨hs, ?_⟩)
    rw [hr, eb]
    exact glk_to hki
  refine ⟨fun y => ?_, fun _ => k_restore hh hTk (fun ce3 pa3 hT3 => ⟨fun _ => ?_, fun y => absurd rfl y⟩)⟩
  · rw [gl_0, nI_leI (gN31 _) (by decide)] at y; omega
  have hz3 : gZ (c + 1 + 1) n mo ce3 (changes + 1 + 1) (changes + 1) h2 := hz2.up1 (by omega)
  refine ⟨fun _ => fin ku (c + 1 + 1) _ _ _ _ _ _ _ _ _ _ _ hku rfl (by omega) hz3, fun g3 => ?_⟩
  -- one nearer
  have ed : ∃ d : Int32, near = C k 4 + d ∧ d.toInt = if b < 0 then b + 1 else b - 1 := by
    refine ⟨r + (if b < 0 then 1 else -1), by rw [hnear, Int32.add_assoc], ?_⟩
    have o1 : (1 : Int32).toInt = 1 := rfl
    have om : (-1 : Int32).toInt = -1 := rfl
    by_cases e : b < 0
    · rw [if_pos e, if_pos e, gm_addI (by omega) (by omega), hr, o1]
    · rw [if_neg e, if_neg e, gm_addI (by omega) (by omega), hr, om]; omega
  obtain ⟨d, hd1, hd2⟩ := ed
  have hdb : -99 ≤ d.toInt ∧ d.toInt ≤ 99 ∧ d.toInt.natAbs + 1 = b.natAbs := by
    revert hd2
    split <;> omega
  have en : near.toInt = (C k 4).toInt + d.toInt := by rw [hd1, gm_addI (by omega) (by omega)]
  have hn99 : -99 ≤ near.toInt ∧ near.toInt ≤ 99 := by
    rw [en]
    revert hd2
    split <;> omega
  refine k_change (j := 4) hT3 hku rfl hk (by decide) ⟨fun y => absurd y (by decide), fun _ => hn99, fun y => absurd y (by decide)⟩ (fun y => absurd y.symm g3) (fun _ ce4 pa4 hT4 => ⟨fun _ => ?_, fun y => absurd rfl y⟩)
  have hz4 : gZ (c + 1 + 1 + 1) n mo ce4 (changes + 1 + 1 + 1) (changes + 1) h2 := hz3.up1 (by omega)
  refine k_count2 hT4 hz4.2.2 (fun h5 g5 => ?_)
  have zero : gcnt (gfull (gput C k 4 near) n mo) 4096 = 0 := by
    refine gcnt_0 (fun q hq hf => ?_)
    obtain ⟨hs, hi⟩ := (gfull_put hn hR hk hki hkd hd1 (by omega)).mp hf
    have mn := hmin q hq hs
    have no := ghi_no (kd := ki) (s := (gsum (C k) q).toInt) (i := d.toInt.natAbs) hki (by omega)
    rcases Int.natAbs_eq d.toInt with e | e
    · rw [e] at hi; exact no.1 hi
    · rw [e] at hi
      exact no.2 (by rw [Int.sub_eq_add_neg]; exact hi)
  rw [zero]
  exact ⟨fun _ => fin (gup ku) (c + 1 + 1 + 1) _ _ _ _ _ _ _ _ _ _ _ (gup_le hku) rfl (by omega) (hz4.look g5), fun y => absurd rfl y⟩
theorem lx_stretched {Q : Int32 → Int32 → Int32 → Int32 → Int32 → Int32 → (Nat → Int32) → (Nat → Int32) → Int32 → (Nat → Int32) → Prop} (hT : gTc n mo C cells size most) (hw : gLw n mo C w) (hu : u ≤ 8) (hkn : known = nI u) (hz : gZ c n mo cells changes seen h) (hc : c + 300 < 2 ^ 31) (hK : gKp n mo C has kk ks km kd kc)
    (hQ : ∀ v c' known' size' most' draw' changes' cells' past' seen' h', v ≤ 8 → known' = nI v → c' ≤ c + 40 → gTc n mo C cells' size' most' → gZ c' n mo cells' changes' seen' h' → Q 1 known' size' most' draw' changes' cells' past' seen' h') : p_L_stretched has known size most draw changes cells past kk ks km kd kc kp seen h w Q := by
  have hn := hT.1
  unfold p_L_stretched
  refine k_count2 hT hz.2.2 (fun h1 g1 => ?_)
  refine gi11_ix (fun i a b kn sz ms dr ch ce pa se ho => ∃ k v c', i + k = 10 ∧ b = nI k ∧ a = 1 ∧ v ≤ 8 ∧ kn = nI v ∧ c' ≤ c + 2 * k ∧ gTc n mo C ce sz ms ∧ gZ c' n mo ce ch se ho) ?_ 10 ⟨0, u, c, rfl, rfl, rfl, hu, hkn, Nat.le_refl _, hT, hz.look g1⟩
  rintro i X a b kn sz ms dr ch ce pa se ho ⟨k, v, c', hi, rfl, rfl, hv8, rfl, hc', hT', hz'⟩ hX
  unfold p_L_stretched_11
  refine ⟨gx_in 0 rfl (by decide) (by decide), ?_⟩
  rw [gcl_0, hw.1]
  have last : p_L_stretched_241 (nI v) sz ms dr ch ce pa se ho w 1 Q := by
    unfold p_L_stretched_241
    exact ⟨g10, fun _ => lx_is hT' hw ⟨g10, fun _ => hQ v c' _ _ _ _ _ _ _ _ _ hv8 rfl (by omega) hT' hz'⟩⟩
  refine ⟨fun _ => last, fun y => ⟨g10, fun _ => ?_⟩⟩
  rw [nI_leI (by omega) (by omega)] at y
  have hk : k < n := by omega
  have hR := hT'.2.2.2.2.2.2
  obtain ⟨-, c4, ki, hki, hkd⟩ := hR k hk
  have e2 : nI k + (2 : Int32) = nI (k + 2) := nI_add _ 2
  have next : ∀ ho1, gVh (fun k j => ce (6 * k + j)) n mo ho1 → p_L_stretched_235 (nI v) sz ms dr ch ce pa ch ho1 1 (nI k) X := fun ho1 go1 => by
    unfold p_L_stretched_235
    exact hX (i - 2) _ _ _ _ _ _ _ _ _ _ _ (by omega) ⟨k + 2, v, c', by omega, e2, rfl, hv8, rfl, by omega, hT', hz'.look go1⟩
  have sp := gstr_spec (gsp C n mo k) (fun q => glk ki (gsum (C k) q).toInt) 4096
  refine k_stretch hT' hz'.2.2 hk hki hkd (fun ho1 r go1 hr => k_of (j := 4) hT' hk (by decide) ?_)
  by_cases hN : gcnt (gfull C n mo) 4096 = 0
  · have hno := gcnt_z.mp hN
    rw [hN]
    -- no point: the stretch is none, or another number than 0
    have nz : ∀ q, q < 4096 → gsp C n mo k q = true → glk ki (gsum (C k) q).toInt ≠ 0 := fun q hq hs e => hno q hq ((gfull_gsp hn hk hki hkd).mpr ⟨hs, (glk_0 hki).mp e⟩)
    have go : ∀ s0 : Int32, s0 = (if 0 ≤ r then r else 0 - r) → p_L_stretched_54 has (nI v) sz ms dr ch ce pa kk ks km kd kc kp ch ho1 (nI 0) (nI k) r (C k 4) s0 X := by
      intro s0 hs0
      unfold p_L_stretched_54
      refine ⟨fun _ => ?_, fun y => absurd (by decide) y⟩
      rcases hr with ⟨-, rfl⟩ | ⟨hb, hrb⟩
      · refine ⟨fun y => absurd y (by decide), fun _ => ⟨fun _ => ?_, fun y => absurd rfl y⟩⟩
        unfold p_L_stretched_92 p_L_stretched_97
        exact ⟨g10, fun _ => ⟨fun _ => ⟨fun _ => next ho1 go1, fun y => absurd (by decide) y⟩, fun y => absurd rfl y⟩⟩
      · have bd := gstr_bd (gsp C n mo k) (fun q => glk ki (gsum (C k) q).toInt) 4096
        have hpt : ∃ q, q < 4096 ∧ gsp C n mo k q = true ∧ gstr (gsp C n mo k) (fun q => glk ki (gsum (C k) q).toInt) 4096 = glk ki (gsum (C k) q).toInt := by
          rcases sp.1 with e | e
          · omega
          · exact e
        have b0 : gstr (gsp C n mo k) (fun q => glk ki (gsum (C k) q).toInt) 4096 ≠ 0 := by
          obtain ⟨q, hq, hs, e⟩ := hpt
          rw [e]
          exact nz q hq hs
        have mn := sp.2
        generalize gstr (gsp C n mo k) (fun q => glk ki (gsum (C k) q).toInt) 4096 = bb at hb hrb bd hpt b0 mn
        have hz100 : (100 : Int32).toInt = 100 := rfl
        have hzm100 : (-100 : Int32).toInt = -100 := rfl
        have z0 : (0 : Int32).toInt = 0 := rfl
        have s0T : s0.toInt = bb.natAbs := by
          rw [hs0, gm_abs (by omega), nI_toInt (by omega), hrb]
        refine ⟨fun y => ?_, fun _ => ⟨fun y => ?_, fun _ => ⟨fun y => ?_, fun _ => ?_⟩⟩⟩
        · rw [y, z0] at hrb; exact absurd hrb.symm b0
        · rw [y, show (-1000004 : Int32).toInt = -1000004 from rfl] at hrb; omega
        · rw [Int32.le_iff_toInt_le, hz100, s0T] at y; omega
        · unfold p_L_stretched_92 p_L_stretched_97
          have one : ∀ near, near = C k 4 + r + (if bb < 0 then 1 else -1) → p_L_stretched_136 has (nI v) sz ms dr ch ce pa kk ks km kd kc kp ch ho1 (nI k) (C k 4) (C k 4 + r) near X := fun near hnear =>
            lx_str_136 (v := v) hT' hv8 rfl (hz'.look go1) (by omega) hK hk hki hkd ⟨by omega, by omega, b0⟩ hrb rfl hnear hpt mn (fun v1 c1 kn1 sz1 ms1 dr1 ch1 ce1 pa1 se1 h1 q1 q2 q3 q4 q5 => hX (i - 2) _ _ _ _ _ _ _ _ _ _ _ (by omega) ⟨k + 2, v1, c1, by omega, e2, rfl, q1, q2, by omega, q4, q5⟩)
          refine ⟨g10, fun _ => ⟨fun _ => ⟨fun y => ?_, fun _ => ⟨fun y => one _ ?_, fun y => one _ ?_⟩⟩, fun y => absurd rfl y⟩⟩
          · rw [Int32.le_iff_toInt_le, hzm100, hrb] at y; omega
          · rw [Int32.le_iff_toInt_le, z0, hrb] at y
            rw [if_pos (by omega)]
          · rw [Int32.le_iff_toInt_le, z0, hrb] at y
            rw [if_neg (by omega), Int32.sub_eq_add_neg]
    exact ⟨fun y => go _ (by rw [if_pos y]), fun y => go _ (by rw [if_neg y])⟩
  · -- there are points: nothing is wanting
    have e0 : gstr (gsp C n mo k) (fun q => glk ki (gsum (C k) q).toInt) 4096 = 0 := by
      have : ∃ q, q < 4096 ∧ gfull C n mo q = true := Classical.byContradiction fun y => hN (gcnt_0 (fun q hq hf => y ⟨q, hq, hf⟩))
      obtain ⟨q, hq, hf⟩ := this
      obtain ⟨hs, hi⟩ := (gfull_gsp hn hk hki hkd).mp hf
      have := sp.2 q hq hs
      rw [(glk_0 hki).mpr hi] at this
      have : (0 : Int).natAbs = 0 := rfl
      omega
    rw [e0] at hr
    have r0 : r = 0 := by
      rcases hr with ⟨y, -⟩ | ⟨-, y⟩
      · exact absurd y (by decide)
      · exact Int32.toInt_inj.mp (by rw [y]; rfl)
    subst r0
    refine ⟨fun _ => ?_, fun y => absurd (by decide) y⟩
    unfold p_L_stretched_54
    refine ⟨fun y => ?_, fun _ => ⟨fun _ => ?_, fun y => absurd rfl y⟩⟩
    · rw [gl_0, nI_leI (gN31 _) (by decide)] at y; omega
    · unfold p_L_stretched_97
      refine ⟨g10, fun _ => ⟨fun y => ?_, fun _ => next ho1 go1⟩⟩
      rw [gl_0, nI_eq (gN31 _) (by decide)] at y
      exact absurd y hN
end KX
