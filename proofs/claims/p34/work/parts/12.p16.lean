/-! the law -/
theorem gm_t5 : ∀ t, t < 5 → (8 : Int32) + (nI t - nI t / (4 : Int32) * (4 : Int32)) = nI (8 + t % 4) ∧ (9 : Int32) + nI t / (4 : Int32) = nI (9 + t / 4) := by decide +kernel
section LW
variable {n mo c u sL : Nat} {C : Nat → Nat → Int32} {xs cells past h w kc kp : Nat → Int32} {known size most draw changes seen kk ks km kd : Int32}
/-- nothing more to undo: the image again -/
theorem lx_305 (hw : gLw n mo C w) (hkn : known = nI 0) (hK : gKp n mo C 1 kk ks km kd kc) : p_L_law_305 1 known size most draw changes cells past kk ks km kd kc kp seen h w 1 := by
  obtain ⟨-, hTk, -, -⟩ := hK
  unfold p_L_law_305
  refine ⟨g10, fun _ => k_undo0 hkn ⟨fun _ => ?_, fun y => absurd rfl y⟩⟩
  exact k_restore rfl hTk (fun c1 p1 hT1 => ⟨fun _ => lx_is hT1 hw ⟨g10, fun _ => rfl⟩, fun y => absurd rfl y⟩)
/-- eight undos -/
theorem lx_270 (hw : gLw n mo C w) (hkn : known = nI 8) (hK : gKp n mo C 1 kk ks km kd kc) : p_L_law_270 1 known size most draw changes cells past kk ks km kd kc kp seen h w 1 := by
  unfold p_L_law_270
  refine gi8_ix (fun i a b kn s m d ch ce => i ≤ 8 ∧ a = 1 ∧ b = nI i - 1 ∧ kn = nI i) ?_ 8 ⟨Nat.le_refl _, rfl, by decide, hkn⟩
  rintro i X a b kn s m d ch ce ⟨hi, rfl, rfl, rfl⟩ hX
  unfold p_L_law_275
  refine ⟨fun y => ?_, fun y => ⟨g10, fun _ => ?_⟩⟩
  · by_cases e : i = 0
    · exact lx_305 hw (by rw [e]) hK
    · rw [gz_n1 (by omega)] at y
      exact absurd y (nI_pos (by omega))
  · have i0 : ¬ i = 0 := fun e => y (by rw [e]; decide)
    obtain ⟨j, rfl⟩ : ∃ j, i = j + 1 := ⟨i - 1, by omega⟩
    have ej : nI (j + 1) - (1 : Int32) = nI j := nI_pred j
    refine k_undo (u := j) (by omega) rfl (fun s1 m1 d1 c1 => ⟨fun _ => ?_, fun y => absurd ?_ y⟩)
    · unfold p_L_law_298
      exact hX j _ _ _ _ _ _ _ _ (by omega) ⟨by omega, rfl, by rw [ej, Int32.sub_eq_add_neg], rfl⟩
    · exact ej.symm
/-- the draw set, drifted twice -/
theorem lx_170 (hL : sL ≤ 260) (hT : gTc n mo C cells size most) (hw : gLw n mo C w) (hu : u ≤ 8) (hkn : known = nI u) (hz : gZ c n mo cells changes seen h) (hc : c + 300 < 2 ^ 31) (hd : ∃ d, d < 2147483648 ∧ draw = nI d) (hK : gKp n mo C 1 kk ks km kd kc) : p_L_law_170 sL xs 1 known size most draw changes cells past kk ks km kd kc kp seen h w 1 := by
  obtain ⟨-, hTk, ⟨uk, hku, ekk⟩, dk, hdk, ekd⟩ := id hK
  obtain ⟨d, hd, ed⟩ := hd
  unfold p_L_law_170
  refine lx_cell (k := 14) hL (by decide) (fun x hx _ => ⟨g10, fun _ => ?_⟩)
  have x0 : ¬ nI x < (0 : Int32) := nI_pos hx
  have x1 : (0 : Int32) ≤ nI x := nI_pos' hx
  refine k_seed x1 ⟨fun y => absurd y (by rw [ed]; exact nI_pos hd), fun _ => ?_⟩
  have e9 : (9 : Int32) = nI 9 := rfl
  have e73 : (73 : Int32) = nI 73 := rfl
  rw [e9]
  refine k_drift (d := x) (m := 9) hT hu hkn rfl hx (by decide) (by decide) hz.2.2 (fun e h1 h2 => hz.ne h1 (by omega)) (fun v e c1 p1 h1 hv8 hv1 hv2 he hT1 hg1 => ?_)
  have hz1 : gZ (c + e) n mo c1 (changes + nI e) (changes + nI e) h1 := hz.new hg1
  unfold p_L_law_202
  rw [e73]
  refine k_hold hT1 (by decide) ⟨g10, fun _ => ?_⟩
  refine k_restore rfl hTk (fun c2 p2 hT2 => ⟨fun _ => ?_, fun y => absurd rfl y⟩)
  refine k_seed x1 ⟨fun y => absurd y (by rw [ekd]; exact nI_pos hdk), fun _ => ?_⟩
  have hz2 : gZ (c + e + 1) n mo c2 (changes + nI e + 1) (changes + nI e) h1 := hz1.up1 (by omega)
  rw [e9]
  refine k_drift (d := x) (m := 9) hT2 hku ekk rfl hx (by decide) (by decide) hz2.2.2 (fun e' h1 h2 => hz2.ne h1 (by omega)) (fun v' e' c3 p3 h3 hv8' hv1' hv2' he' hT3 hg3 => ⟨fun _ => ?_, fun y => absurd rfl y⟩)
  refine k_hold hT3 (by decide) ⟨fun _ => ?_, fun y => absurd rfl y⟩
  have v8 : v' = 8 := hv2' (by omega)
  subst v8
  exact k_count4 ⟨fun _ => lx_270 hw rfl hK, fun y => absurd rfl y⟩
/-- what is asked of the last system -/
theorem lx_104 {has kk' ks' km' kd' kch' : Int32} {kc' kp' : Nat → Int32} {tally held sc rc dc la si : Nat → Int32} {it : Nat → Int64} {ss rs ds : Int32} (hL : sL ≤ 260) (hT : gTc n mo C cells size most) (hw : gLw n mo C w) (hu : u ≤ 8) (hkn : known = nI u) (hz : gZ c n mo cells changes seen h) (hc : c + 1000 < 2 ^ 31) (hd : ∃ d, d < 2147483648 ∧ draw = nI d) : p_L_law_104 sL xs has known size most draw changes cells past kk' ks' km' kd' kch' kc' kp' seen tally h held ss sc rs rc ds dc it la si w 1 := by
  unfold p_L_law_104
  refine ⟨g10, fun _ => k_image hT (fun c1 p1 hTk => ⟨fun _ => ?_, fun y => absurd rfl y⟩)⟩
  have hK : gKp n mo C 1 known size most draw c1 := ⟨rfl, hTk, ⟨u, hu, hkn⟩, hd⟩
  refine lx_shadowed hL hT hw (fun y1 y2 y3 y4 y5 y6 => ⟨g10, fun _ => ?_⟩)
  refine lx_left hT hw hu hkn hz (by omega) hK (fun v a1 a2 a3 a4 a5 a6 a7 a8 a9 a10 a11 a12 hv he ha hT1 hz1 => ⟨g10, fun _ => ?_⟩)
  refine lx_stretched hT1 hw hv he hz1 (by omega) hK (fun v' b1 b2 b3 b4 b5 b6 b7 b8 b9 b10 hv' he' hb hT2 hz2 => ⟨g10, fun _ => ?_⟩)
  refine lx_seen hT2 hw hv' he' hz2 (by omega) (fun v2 d1 d2 d3 d4 d5 d6 d7 d8 d9 d10 hv2 he2 hd1 hT3 hz3 => ⟨g10, fun _ => ?_⟩)
  refine k_restore rfl hTk (fun e1 e2 hT4 => ⟨fun _ => lx_is hT4 hw ⟨g10, fun _ => ?_⟩, fun y => absurd rfl y⟩)
  exact lx_170 (c := d1 + 1) hL hT4 hw hu hkn (hz3.up1 (by omega)) (by omega) hd hK
/-- five acts -/
theorem lx_39 {has kk' ks' km' kd' kch' : Int32} {kc' kp' : Nat → Int32} {tally held sc rc dc la si : Nat → Int32} {it : Nat → Int64} {ss rs ds : Int32} (hL : sL ≤ 260) (hT : gTc n mo C cells size most) (hw : gLw n mo C w) (hu : u ≤ 8) (hkn : known = nI u) (hz : gZ c n mo cells changes seen h) (hc : c ≤ 1000) (hd : ∃ d, d < 2147483648 ∧ draw = nI d) : p_L_law_39 sL xs has known size most draw changes cells past kk' ks' km' kd' kch' kc' kp' seen tally h held ss sc rs rc ds dc it la si w 1 := by
  unfold p_L_law_39
  refine gi11_ix (fun i a b kn s m ch ce pa se ho ww => ∃ t v c' n' mo' C', i + t = 5 ∧ a = 1 ∧ b = nI t ∧ v ≤ 8 ∧ kn = nI v ∧ c' ≤ c + 8 * t ∧ gTc n' mo' C' ce s m ∧ gZ c' n' mo' ce ch se ho ∧ gLw n' mo' C' ww) ?_ 5 ⟨0, u, c, n, mo, C, rfl, rfl, rfl, hu, hkn, Nat.le_refl _, hT, hz, hw⟩
  rintro i X a b kn s m ch ce pa se ho ww ⟨t, v, c', n', mo', C', hi, rfl, rfl, hv, hkn', hc', hT', hz', hw'⟩ hX
  unfold p_L_law_43
  refine ⟨fun _ => lx_104 hL hT' hw' hv hkn' hz' (by omega) hd, fun y => ⟨g10, fun _ => ?_⟩⟩
  rw [gl_5, nI_leI (by decide) (by omega)] at y
  obtain ⟨t1, t2⟩ := gm_t5 t (by omega)
  rw [t1]
  refine lx_cell (k := 8 + t % 4) hL (by omega) (fun x hx _ => ?_)
  have lx : x / 2 ^ (9 + t / 4) < 2 ^ 31 := Nat.lt_of_le_of_lt (Nat.div_le_self _ _) hx
  have sh : nI (x / 2 ^ (9 + t / 4)) &&& (4095 : Int32) = nI (x / 2 ^ (9 + t / 4) % 4096) := pk_andN (by omega) 12 (by decide)
  rw [t2, gx_sh hx (by omega), sh]
  refine lx_acts (Nat.mod_lt _ (by decide)) hT' hw' hv hkn' hz' (by omega) ?_
  intro r v1 c1 n1 mo1 C1 k1 s1 m1 ch1 ce1 pa1 se1 h1 w1 hr hv1 hk1 hc1 hT1 hz1 hw1
  refine ⟨fun y => ?_, fun _ => lx_stands hT1 hw1 hz1.2.2 (fun h2 g2 => ⟨g10, fun _ => ?_⟩)⟩
  · rcases hr with rfl | rfl
    · exact absurd y (by decide)
    · exact absurd y (by decide)
  · unfold p_L_law_97
    exact hX (i - 1) _ _ _ _ _ _ _ _ _ _ _ (by omega) ⟨t + 1, v1, c1, n1, mo1, C1, by omega, rfl, by rw [gl_1, nI_add], hv1, hk1, by omega, hT1, hz1.look g2, hw1⟩
theorem lx_law {has kk' ks' km' kd' kch' tp lt rt ts tm td tch x1 x2 x3 : Int32} {kc' kp' letters tc tally held sc rc dc la si : Nat → Int32} {it : Nat → Int64} {ss rs ds : Int32} (hL : sL ≤ 260) : p_L_law sL xs has x1 x2 x3 (1 : Int32) (0 : Int32) cells past kk' ks' km' kd' kch' kc' kp' (0 : Int32) tp lt rt letters ts tm td tch tc (-1 : Int32) tally h held ss sc rs rc ds dc it la si w := by
  unfold p_L_law
  refine lx_draws hL (fun n mo C w1 hn hmo1 hmo5 hR hw => ?_)
  refine lx_lays hw (by omega) hmo1 (by omega) hR (fun c1 y1 y2 y3 l1 y4 y5 y6 y7 hT => ⟨g10, fun _ => ?_⟩)
  have hz : gZ 1 n mo c1 ((0 : Int32) + 1) (-1) h := ⟨by decide, Or.inl rfl, fun y => absurd y (by decide)⟩
  refine lx_stands hT hw hz.2.2 (fun h2 g2 => ⟨g10, fun _ => ?_⟩)
  exact lx_39 (c := 1) (u := 0) hL hT hw (by decide) rfl (hz.look g2) (by decide) ⟨1, by decide, rfl⟩
end LW
