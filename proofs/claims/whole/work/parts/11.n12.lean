/-! add -/
theorem gdig_lt (f v : Nat) : gdig f v < 20 := Nat.mod_lt _ (by decide)
theorem gdig_val {f v : Nat} (h : gdig f v ≤ 18) : -9 ≤ (nI (gdig f v) - (9 : Int32)).toInt ∧ (nI (gdig f v) - (9 : Int32)).toInt ≤ 9 := by
  rw [gl_9, pk_sub_toInt (by omega) (by omega)]
  omega
theorem gSnap_add {n mo f kd : Nat} {cells cells' now now' : Nat → Int32} {size most draw rest : Int32} (hS : gSnap n mo cells size most draw now) (hn : n < 8) (hd : ∀ v, v < 4 → gdig f v ≤ 18) (hk : kd ≤ 4) (hr : -99 ≤ rest.toInt ∧ rest.toInt ≤ 99)
    (c1 : ∀ q, q < 6 * n → cells' q = cells q) (c2 : ∀ v, v < 4 → cells' (6 * n + v) = nI (gdig f (3 - v)) - 9) (c3 : cells' (6 * n + 4) = rest) (c4 : cells' (6 * n + 5) = nI kd)
    (n0 : now' 0 = nI (n + 1)) (n1 : ∀ q, q ≠ 0 → q < 3 + 6 * n → now' q = now q) (n2 : ∀ v, v < 4 → now' (3 + 6 * n + v) = nI (gdig f (3 - v)) - 9) (n3 : now' (3 + 6 * n + 4) = rest) (n4 : now' (3 + 6 * n + 5) = nI kd) : gSnap (n + 1) mo cells' (nI (n + 1)) most draw now' := by
  obtain ⟨g1, g2, g3, g4, g5, g6, g7, g8, g9, g10, g11⟩ := hS
  refine ⟨by omega, g2, g3, rfl, g5, n0, by rw [n1 1 (by decide) (by omega), g7], by rw [n1 2 (by decide) (by omega), g8], g9, fun k hk j hj => ?_, fun k hk => ?_⟩
  · by_cases e : k = n
    · subst e
      rcases (show j < 4 ∨ j = 4 ∨ j = 5 by omega) with h | rfl | rfl
      · rw [c2 j h, n2 j h]
      · rw [c3, n3]
      · rw [c4, n4]
    · rw [c1 _ (by omega), n1 _ (by omega) (by omega)]
      exact g10 k (by omega) j hj
  · by_cases e : k = n
    · subst e
      refine ⟨fun j hj => ?_, ?_, kd, by omega, c4⟩
      · rw [c2 j hj]
        exact gdig_val (hd _ (by omega))
      · rw [c3]; exact hr
    · obtain ⟨r1, r2, r3⟩ := g11 k (by omega)
      refine ⟨fun j hj => ?_, ?_, ?_⟩
      · rw [c1 _ (by omega)]; exact r1 j hj
      · rw [c1 _ (by omega)]; exact r2
      · rw [c1 _ (by omega)]; exact r3
theorem s_X11_add_50 {n u f : Nat} {undos x1 x3 : Int32} {ahead now : Nat → Int32} {Q : Int32 → Int32 → (Nat → Int32) → (Nat → Int32) → Prop} (h0 : now 0 = nI n) (hn : n ≤ 8) (hu : u ≤ 8) (hun : undos = nI u) (hf : f < 160000)
    (hB : ¬ (∀ v, v < 4 → gdig f v ≤ 18) → Q (-1000001) undos ahead now)
    (hF : (∀ v, v < 4 → gdig f v ≤ 18) → n = 8 → Q (-1000003) undos ahead now)
    (hK : (∀ v, v < 4 → gdig f v ≤ 18) → n < 8 → ∀ v d a', gSlot u v d → (∀ i, i < v → ∀ q, q < 51 → a' (51 * i + q) = ahead (51 * (i + d) + q)) → (∀ q, q < 51 → a' (51 * v + q) = now q) → ∀ now' : Nat → Int32, now' 0 = nI (n + 1) → (∀ q, q ≠ 0 → q < 3 + 6 * n → now' q = now q) → (∀ v, v < 4 → now' (3 + 6 * n + v) = nI (gdig f (3 - v)) - 9) → now' (3 + 6 * n + 4) = x3 → now' (3 + 6 * n + 5) = x1 → Q (nI n) (nI (v + 1)) a' now') : ∃ k, gi3 (p_X11_add_50 undos ahead now x1 (nI f) x3 Q) k (nI f) (1 : Int32) (0 : Int32) := by
  have hd : ∀ i, f / 20 ^ i < 2 ^ 31 := fun i => Nat.lt_of_le_of_lt (Nat.div_le_self _ _) (by omega)
  have d0 : nI f / (8000 : Int32) = nI (gdig f 3) := by
    rw [show (8000 : Int32) = nI 8000 from rfl, pk_div (by omega) (by decide) (by decide)]
    congr 1
    show f / 8000 = f / 8000 % 20
    omega
  have d1 : nI f / (400 : Int32) - nI f / (400 : Int32) / (20 : Int32) * (20 : Int32) = nI (gdig f 2) := by
    rw [show (400 : Int32) = nI 400 from rfl, pk_div (by omega) (by decide) (by decide), gx_20r _ (by omega)]
    rfl
  have d2 : nI f / (20 : Int32) - nI f / (20 : Int32) / (20 : Int32) * (20 : Int32) = nI (gdig f 1) := by
    rw [gx_20d _ (by omega), gx_20r _ (by omega)]
    rfl
  have d3 : nI f - nI f / (20 : Int32) * (20 : Int32) = nI (gdig f 0) := by
    rw [gx_20r _ (by omega)]
    unfold gdig
    rw [Nat.pow_zero, Nat.div_one]
  refine gi3_inv 4 (fun i a b c => a = nI (f / 20 ^ i) ∧ c = nI i ∧ ((b = 1 ∧ ∀ v, v < i → gdig f v ≤ 18) ∨ (b = 0 ∧ ¬ ∀ v, v < 4 → gdig f v ≤ 18))) ?_ ?_ ⟨by rw [Nat.pow_zero, Nat.div_one], rfl, Or.inl ⟨rfl, fun v hv => absurd hv (Nat.not_lt_zero v)⟩⟩
  · rintro i hi X a b c ⟨rfl, rfl, hb⟩ hX
    unfold p_X11_add_50 p_X11_add_75 p_X11_add_76
    refine ⟨fun g => ?_, fun _ => ?_⟩
    · rw [gl_4, nI_leI (by decide) (by omega)] at g; omega
    · rw [gx_20r _ (hd i), gx_20d _ (hd i), g20s]
      have en : nI i + (1 : Int32) = nI (i + 1) := nI_add i 1
      rw [en]
      rcases hb with ⟨rfl, hb⟩ | ⟨rfl, hb⟩
      · refine ⟨g10, fun _ => ⟨fun g => ?_, fun g => ?_⟩⟩
        · rw [show (19 : Int32) = nI 19 from rfl, nI_leI (by decide) (by omega)] at g
          refine hX _ _ _ ⟨rfl, rfl, Or.inr ⟨rfl, fun z => ?_⟩⟩
          have : gdig f i ≤ 18 := z i hi
          unfold gdig at this
          omega
        · rw [show (19 : Int32) = nI 19 from rfl, nI_leI (by decide) (by omega)] at g
          refine hX _ _ _ ⟨rfl, rfl, Or.inl ⟨rfl, fun v hv => ?_⟩⟩
          by_cases e : v = i
          · subst e; unfold gdig; omega
          · exact hb v (by omega)
      · exact ⟨fun _ => hX _ _ _ ⟨rfl, rfl, Or.inr ⟨rfl, hb⟩⟩, g00⟩
  · rintro X a b c ⟨rfl, rfl, hb⟩
    unfold p_X11_add_50
    refine ⟨fun _ => ?_, fun g => absurd (by rw [gl_4, nI_leI (by decide) (by decide)]; omega) g⟩
    rcases hb with ⟨rfl, hb⟩ | ⟨rfl, hb⟩
    · refine ⟨g10, fun _ => ⟨vp_in_nI (n := 0) (by decide) (by decide), ?_⟩⟩
      rw [gcl_0, h0]
      refine ⟨fun g => ?_, fun g => ?_⟩
      · rw [gl_8, nI_eq (by omega) (by decide)] at g
        exact hF hb g
      · rw [gl_8, nI_eq (by omega) (by decide)] at g
        refine s_X11_notes hu hun (fun v d a' q1 q2 q3 => ⟨vp_in_nI (n := 0) (by decide) (by decide), fun z8 hz8 => ?_⟩)
        rw [gx_m6] at hz8
        subst hz8
        have e1 : nI (3 + 6 * n) + (1 : Int32) = nI (3 + 6 * n + 1) := nI_add _ 1
        have e2 : nI (3 + 6 * n) + (2 : Int32) = nI (3 + 6 * n + 2) := nI_add _ 2
        have e3 : nI (3 + 6 * n) + (3 : Int32) = nI (3 + 6 * n + 3) := nI_add _ 3
        have e4 : nI (3 + 6 * n) + (4 : Int32) = nI (3 + 6 * n + 4) := nI_add _ 4
        have e5 : nI (3 + 6 * n) + (5 : Int32) = nI (3 + 6 * n + 5) := nI_add _ 5
        have en : nI n + (1 : Int32) = nI (n + 1) := nI_add n 1
        have e9 : nI (n + 1) - (1 : Int32) = nI n := nI_pred n
        refine ⟨vp_in_nI (n := 0) (by decide) (by decide), vp_in_nI (n := 0) (by decide) (by decide), vp_in_nI (by omega) (by decide), gx_in _ e1 (by omega) (by decide), gx_in _ e2 (by omega) (by decide), gx_in _ e3 (by omega) (by decide), gx_in _ e4 (by omega) (by decide), gx_in _ e5 (by omega) (by decide), vp_in_nI (n := 0) (by decide) (by decide), ?_⟩
        rw [e1, e2, e3, e4, e5, nI_clamp (n := 3 + 6 * n) (by omega), nI_clamp (n := 3 + 6 * n + 1) (by omega), nI_clamp (n := 3 + 6 * n + 2) (by omega), nI_clamp (n := 3 + 6 * n + 3) (by omega), nI_clamp (n := 3 + 6 * n + 4) (by omega), nI_clamp (n := 3 + 6 * n + 5) (by omega), d0, d1, d2, d3, en]
        rw [pk_un (show (0 : Nat) ≠ 3 + 6 * n + 5 by omega), pk_un (show (0 : Nat) ≠ 3 + 6 * n + 4 by omega), pk_un (show (0 : Nat) ≠ 3 + 6 * n + 3 by omega), pk_un (show (0 : Nat) ≠ 3 + 6 * n + 2 by omega), pk_un (show (0 : Nat) ≠ 3 + 6 * n + 1 by omega), pk_un (show (0 : Nat) ≠ 3 + 6 * n by omega), pk_us, e9]
        refine hK hb (by omega) v d a' q1 q2 q3 _ ?_ (fun q hq hq2 => ?_) (fun w hw => ?_) ?_ ?_
        · rw [pk_un (by omega), pk_un (by omega), pk_un (by omega), pk_un (by omega), pk_un (by omega), pk_un (by omega), pk_us]
        · rw [pk_un (by omega), pk_un (by omega), pk_un (by omega), pk_un (by omega), pk_un (by omega), pk_un (by omega), pk_un hq]
        · rcases (show w = 0 ∨ w = 1 ∨ w = 2 ∨ w = 3 by omega) with rfl | rfl | rfl | rfl
          · rw [pk_un (by omega), pk_un (by omega), pk_un (by omega), pk_un (by omega), pk_un (by omega)]
            exact pk_us
          · rw [pk_un (by omega), pk_un (by omega), pk_un (by omega), pk_un (by omega)]
            exact pk_us
          · rw [pk_un (by omega), pk_un (by omega), pk_un (by omega)]
            exact pk_us
          · rw [pk_un (by omega), pk_un (by omega)]
            exact pk_us
        · rw [pk_un (by omega)]
          exact pk_us
        · exact pk_us
    · exact ⟨fun _ => hB hb, g00⟩
theorem o_add {n mo u : Nat} {cells past now ahead : Nat → Int32} {size most draw known undos changes a1 a2 a3 : Int32} {X : Int32 → Int32 → Int32 → (Nat → Int32) → (Nat → Int32) → Int32 → (Nat → Int32) → (Nat → Int32) → Prop} (hB : gBook n mo u cells size most draw known past now undos ahead) (hX0 : X known size changes cells past undos ahead now)
    (hX1 : ∀ n' u' s' cells' past' now' ahead', gBook n' mo u' cells' s' most draw (nI u') past' now' (nI u') ahead' → X (nI u') s' (changes + nI 6) cells' past' (nI u') ahead' now') : p_X10_add known size most draw changes cells past a1 a2 a3 (fun r1 y2 y3 y4 y5 y6 => p_X11_add undos ahead now a1 a2 a3 (fun r7 y8 y9 y10 => r1 = r7 ∧ X y2 y3 y4 y5 y6 y8 y9 y10)) := by
  obtain ⟨hS, hu, hkn, hun, hP⟩ := id hB
  obtain ⟨hn, -, -, hsz, -, h0, -, -, -, hc, -⟩ := id hS
  subst hsz
  unfold p_X10_add
  by_cases h1 : ∃ k, k < 5 ∧ a1 = nI k
  · obtain ⟨kd, hkd, rfl⟩ := h1
    refine s_oR_in hkd (by decide) rfl ⟨fun _ => ?_, g00⟩
    by_cases h3 : (-99 : Int32).toInt ≤ a3.toInt ∧ a3.toInt ≤ (99 : Int32).toInt
    · refine s_out_in h3 ⟨fun _ => ?_, g00⟩
      by_cases h2 : ∃ f, f < 160000 ∧ a2 = nI f
      · obtain ⟨f, hf, rfl⟩ := h2
        have enter : ∀ Q : Int32 → Int32 → (Nat → Int32) → (Nat → Int32) → Prop, (∃ k, gi3 (p_X11_add_50 undos ahead now (nI kd) (nI f) a3 Q) k (nI f) (1 : Int32) (0 : Int32)) → p_X11_add undos ahead now (nI kd) (nI f) a3 Q := by
          intro Q hh
          unfold p_X11_add
          exact s_iR_in hkd (by decide) (by decide) ⟨g10, fun _ => s_iR_in hf (by decide) (by decide) ⟨g10, fun _ => s_in_in (by rw [gm_l]; exact h3) ⟨g10, fun _ => hh⟩⟩⟩
        refine s_aF_loop hf (fun hd => ⟨g10, fun _ => ⟨fun g => ?_, fun g => ?_⟩⟩) (fun hd => ⟨fun _ => ?_, g00⟩)
        · rw [gl_8, nI_ltI (by omega) (by decide)] at g
          refine s_X0_keep hu hkn (fun v d past' hs p1 p2 p3 p4 p5 => s_X9_append g hf (fun c' c1 c2 c3 c4 => ?_))
          refine enter _ (s_X11_add_50 h0 hn hu hun hf (fun z => absurd hd z) (fun _ z => by omega) (fun _ _ v' d' a' hs' q1 q2 now' w0 w1 w2 w3 w4 => ?_))
          obtain ⟨rfl, rfl⟩ := gSlot_fun hs hs'
          have hle := gSlot_le hs
          refine ⟨nI_pred n, hX1 (n + 1) (v' + 1) _ _ _ _ _ ⟨?_, by omega, rfl, rfl, gPast_keep hs hP hS p1 p2 p3 p4 p5 q1 q2⟩⟩
          exact gSnap_add hS g hd (by omega) h3 c1 c2 c3 c4 w0 w1 w2 w3 w4
        · rw [gl_8, nI_ltI (by omega) (by decide)] at g
          exact enter _ (s_X11_add_50 h0 hn hu hun hf (fun z => absurd hd z) (fun _ _ => ⟨rfl, hX0⟩) (fun _ z => by omega))
        · exact enter _ (s_X11_add_50 h0 hn hu hun hf (fun _ => ⟨rfl, hX0⟩) (fun z => absurd z hd) (fun z => absurd z hd))
      · refine s_aF_out h2 ⟨fun _ => ?_, g00⟩
        unfold p_X11_add
        exact s_iR_in hkd (by decide) (by decide) ⟨g10, fun _ => s_iR_out h2 (by decide) (by decide) ⟨fun _ => ⟨rfl, hX0⟩, g00⟩⟩
    · refine s_out_out h3 ⟨g10, fun _ => ?_⟩
      unfold p_X11_add
      refine s_iR_in hkd (by decide) (by decide) ⟨g10, fun _ => ?_⟩
      by_cases h2 : ∃ f, f < 160000 ∧ a2 = nI f
      · obtain ⟨f, hf, rfl⟩ := h2
        exact s_iR_in hf (by decide) (by decide) ⟨g10, fun _ => s_in_out (by rw [gm_l]; exact h3) ⟨fun _ => ⟨rfl, hX0⟩, g00⟩⟩
      · exact s_iR_out h2 (by decide) (by decide) ⟨fun _ => ⟨rfl, hX0⟩, g00⟩
  · refine s_oR_out h1 (by decide) (by decide) rfl ⟨g10, fun _ => ?_⟩
    unfold p_X11_add
    exact s_iR_out h1 (by decide) (by decide) ⟨fun _ => ⟨rfl, hX0⟩, g00⟩
/-! count -/
theorem gfull_fn {n mo : Nat} {cells now : Nat → Int32} {size most draw : Int32} (hS : gSnap n mo cells size most draw now) : gfull (fun k j => cells (6 * k + j)) n mo = gfull (fun k j => now (3 + 6 * k + j)) n mo := by
  obtain ⟨hn, -, -, rfl, -, h0, -, -, -, hc, -⟩ := hS
  funext p
  exact gfull_cg hc
theorem o_count {n mo u : Nat} {cells past now ahead h holds points : Nat → Int32} {size most draw known undos changes seen many a1 : Int32} {X : Int32 → (Nat → Int32) → Int32 → (Nat → Int32) → (Nat → Int32) → Prop} (hB : gBook n mo u cells size most draw known past now undos ahead) (hv : seen = changes → gVh (fun k j => cells (6 * k + j)) n mo h) (hX0 : X seen h many holds points)
    (hX1 : ∀ h' m hs ps, gVh (fun k j => cells (6 * k + j)) n mo h' → X changes h' m hs ps) : p_X10_count known size most changes cells seen h a1 (fun r1 y2 y3 => p_X11_count many undos holds now points a1 (fun r4 y5 y6 y7 => r1 = r4 ∧ X y2 y3 y5 y6 y7)) := by
  obtain ⟨hS, hu, hkn, hun, hP⟩ := id hB
  have hF := gfull_fn hS
  obtain ⟨hn, -, hm, rfl, rfl, h0, h1, -, -, hc, -⟩ := id hS
  unfold p_X10_count p_X11_count
  refine ⟨fun e => ⟨fun _ => ⟨vp_in_nI (n := 0) (by decide) (by decide), ?_⟩, fun z => absurd e z⟩, fun e0 => ⟨fun e => ⟨fun z => absurd z e0, fun _ => ⟨fun _ => ⟨vp_in_nI (n := 1) (by decide) (by decide), ?_⟩, fun z => absurd e z⟩⟩, fun e1 => ⟨fun e => ?_, fun e2 => ⟨fun e => ?_, fun e3 => ⟨fun e => ?_, fun e4 => ?_⟩⟩⟩⟩⟩
  · rw [gcl_0, h0]; exact ⟨rfl, hX0⟩
  · rw [gcl_1, h1]; exact ⟨rfl, hX0⟩
  · refine s_X5_pointCount hn hm hv (fun h' hh => ⟨fun z => absurd z e0, fun _ => ⟨fun z => absurd z e1, fun _ => ⟨fun _ => s_X11_pointsNow h0 h1 hn hm (fun m hs ps => ⟨?_, hX1 _ _ _ _ hh⟩), fun z => absurd e z⟩⟩⟩)
    rw [hF]
  · have lead : ∀ Q : Int32 → Int32 → (Nat → Int32) → (Nat → Int32) → Prop, p_X11_firstPoint many holds now points Q → (a1 = (0 : Int32) → (vp_in (0 : Int32) 51 ∧ (Q (now (0 : Int32).toNatClampNeg) many holds points))) ∧ (¬ a1 = (0 : Int32) → ((a1 = (1 : Int32) → (vp_in (1 : Int32) 51 ∧ (Q (now (1 : Int32).toNatClampNeg) many holds points))) ∧ (¬ a1 = (1 : Int32) → ((a1 = (2 : Int32) → (p_X11_pointsNow many holds now points (fun r3 y4 y5 y6 => Q r3 y4 y5 y6))) ∧ (¬ a1 = (2 : Int32) → ((a1 = (3 : Int32) → (p_X11_firstPoint many holds now points (fun r7 y8 y9 y10 => Q r7 y8 y9 y10))) ∧ (¬ a1 = (3 : Int32) → ((a1 = (4 : Int32) → (Q undos many holds points)) ∧ (¬ a1 = (4 : Int32) → (Q (-1000001 : Int32) many holds points)))))))))) :=
      fun Q hh => ⟨fun z => absurd z e0, fun _ => ⟨fun z => absurd z e1, fun _ => ⟨fun z => absurd z e2, fun _ => ⟨fun _ => hh, fun z => absurd e z⟩⟩⟩⟩
    refine s_X5_pointFrom (least := 0) hn hm (by decide) hv (fun h' p hh _ hp hf hl => ⟨fun _ => lead (fun r4 y5 y6 y7 => nI p = r4 ∧ X changes h' y5 y6 y7) ?_, fun z => absurd (nI_pos' (by omega)) z⟩) (fun h' hh hl => ⟨fun z => absurd z (by decide), fun _ => lead (fun r4 y5 y6 y7 => -1000004 = r4 ∧ X changes h' y5 y6 y7) ?_⟩)
    · refine s_X11_firstPoint h0 h1 hn hm (fun m hs ps p' hp' hf' hl' => ⟨?_, hX1 _ _ _ _ hh⟩) (fun m hs ps hl' => ?_)
      · rw [← hF] at hf' hl'
        have : p = p' := by
          rcases Nat.lt_trichotomy p p' with z | z | z
          · exact absurd hf (hl' p z)
          · exact z
          · exact absurd hf' (hl p' (Nat.zero_le _) z)
        rw [this]
      · rw [← hF] at hl'
        exact absurd hf (hl' p hp)
    · refine s_X11_firstPoint h0 h1 hn hm (fun m hs ps p' hp' hf' hl' => ?_) (fun m hs ps hl' => ⟨rfl, hX1 _ _ _ _ hh⟩)
      rw [← hF] at hf'
      exact absurd hf' (hl p' (Nat.zero_le _) hp')
  · exact ⟨fun z => absurd z e0, fun _ => ⟨fun z => absurd z e1, fun _ => ⟨fun z => absurd z e2, fun _ => ⟨fun z => absurd z e3, fun _ => ⟨fun _ => ⟨by rw [hkn, hun], hX0⟩, fun z => absurd e z⟩⟩⟩⟩⟩
  · exact ⟨fun z => absurd z e0, fun _ => ⟨fun z => absurd z e1, fun _ => ⟨fun z => absurd z e2, fun _ => ⟨fun z => absurd z e3, fun _ => ⟨fun z => absurd z e4, fun _ => ⟨rfl, hX0⟩⟩⟩⟩⟩⟩
/-! turn -/
theorem gm_neg {x : Int32} {b : Nat} (hb : b < 1000) (h : -(b : Int) ≤ x.toInt ∧ x.toInt ≤ b) : -(b : Int) ≤ (-x).toInt ∧ (-x).toInt ≤ b := by
  rw [Int32.toInt_neg, gm_bm (by omega) (by omega)]
  omega
theorem gSnap_neg {n mo k : Nat} {cells cells' now now' : Nat → Int32} {size most draw : Int32} (hS : gSnap n mo cells size most draw now) (hk : k < n) (c1 : ∀ j, j < 5 → cells' (6 * k + j) = -cells (6 * k + j)) (c2 : ∀ q, ¬ (6 * k ≤ q ∧ q < 6 * k + 5) → cells' q = cells q) (n1 : ∀ j, j < 5 → now' (3 + 6 * k + j) = -now (3 + 6 * k + j)) (n2 : ∀ q, ¬ (3 + 6 * k ≤ q ∧ q < 3 + 6 * k + 5) → now' q = now q) : gSnap n mo cells' size most draw now' := by
  obtain ⟨g1, g2, g3, g4, g5, g6, g7, g8, g9, g10, g11⟩ := hS
  refine ⟨g1, g2, g3, g4, g5, by rw [n2 0 (by omega), g6], by rw [n2 1 (by omega), g7], by rw [n2 2 (by omega), g8], g9, fun k' hk' j hj => ?_, fun k' hk' => ?_⟩
  · by_cases e : k' = k ∧ j < 5
    · obtain ⟨rfl, e⟩ := e
      rw [c1 j e, n1 j e, g10 k' hk' j hj]
    · rw [c2 _ (by omega), n2 _ (by omega)]
      exact g10 k' hk' j hj
  · obtain ⟨r1, r2, r3⟩ := g11 k' hk'
    by_cases e : k' = k
    · subst e
      refine ⟨fun j hj => ?_, ?_, ?_⟩
      · rw [c1 j (by omega)]
        exact gm_neg (b := 9) (by decide) (r1 j hj)
      · rw [c1 4 (by omega)]
        exact gm_neg (b := 99) (by decide) r2
      · rw [c2 _ (by omega)]
        exact r3
    · refine ⟨fun j hj => ?_, ?_, ?_⟩
      · rw [c2 _ (by omega)]; exact r1 j hj
      · rw [c2 _ (by omega)]; exact r2
      · rw [c2 _ (by omega)]; exact r3
theorem s_X9_negate {k : Nat} {changes : Int32} {cells : Nat → Int32} {Q : Int32 → (Nat → Int32) → Prop} (hk : k < 8) (hQ : ∀ c', (∀ j, j < 5 → c' (6 * k + j) = -cells (6 * k + j)) → (∀ q, ¬ (6 * k ≤ q ∧ q < 6 * k + 5) → c' q = cells q) → Q (changes + nI 5) c') : p_X9_negate changes cells (nI k) Q := by
  unfold p_X9_negate
  refine gi3_inv 5 (fun i a b c => a = nI i ∧ b = changes + nI i ∧ (∀ j, j < i → c (6 * k + j) = -cells (6 * k + j)) ∧ ∀ q, ¬ (6 * k ≤ q ∧ q < 6 * k + i) → c q = cells q) ?_ ?_ ⟨rfl, by rw [nI_0, Int32.add_zero], fun j hj => absurd hj (Nat.not_lt_zero j), fun _ _ => rfl⟩
  · rintro i hi X a b c ⟨rfl, rfl, c1, c2⟩ hX
    unfold p_X9_negate_2 p_X9_cell p_X9_setCell
    refine ⟨fun g => ?_, fun _ => ⟨gx_in _ (gx_6 k i) (by omega) (by decide), gx_in _ (gx_6 k i) (by omega) (by decide), ?_⟩⟩
    · rw [gl_4, nI_ltI (by decide) (by omega)] at g; omega
    · rw [gx_cl _ (gx_6 k i) (by omega)]
      refine hX _ _ _ ⟨by rw [gl_1, nI_add], by rw [Int32.add_assoc, gl_1, nI_add], fun j hj => ?_, fun q hq => ?_⟩
      · by_cases e : j = i
        · subst e
          rw [pk_us, c2 _ (by omega)]
        · rw [pk_un (by omega)]
          exact c1 j (by omega)
      · rw [pk_un (by omega)]
        exact c2 q (by omega)
  · rintro X a b c ⟨rfl, rfl, c1, c2⟩
    unfold p_X9_negate_2
    exact ⟨fun _ => hQ c c1 c2, fun g => absurd (by rw [gl_4, nI_ltI (by decide) (by decide)]; omega) g⟩
theorem s_X11_turn_17 {k n mo : Nat} {many undos : Int32} {ahead holds points now : Nat → Int32} {Q : Int32 → Int32 → Int32 → (Nat → Int32) → (Nat → Int32) → (Nat → Int32) → (Nat → Int32) → Prop} (hk : k < n) (hn : n ≤ 8) (hm : mo ≤ 7) (h0 : now 0 = nI n) (h1 : now 1 = nI mo)
    (hQ : ∀ now' m hs ps, (∀ j, j < 5 → now' (3 + 6 * k + j) = -now (3 + 6 * k + j)) → (∀ q, ¬ (3 + 6 * k ≤ q ∧ q < 3 + 6 * k + 5) → now' q = now q) → Q (nI (gcnt (gfull (fun k j => now' (3 + 6 * k + j)) n mo) 4096)) m undos ahead hs now' ps) : ∃ i, gi2 (p_X11_turn_17 many undos ahead holds points (nI k) Q) i (0 : Int32) now := by
  refine gi2_inv 5 (fun i a c => a = nI i ∧ (∀ j, j < i → c (3 + 6 * k + j) = -now (3 + 6 * k + j)) ∧ ∀ q, ¬ (3 + 6 * k ≤ q ∧ q < 3 + 6 * k + i) → c q = now q) ?_ ?_ ⟨rfl, fun j hj => absurd hj (Nat.not_lt_zero j), fun _ _ => rfl⟩
  · rintro i hi X a c ⟨rfl, c1, c2⟩ hX
    unfold p_X11_turn_17
    refine ⟨fun g => ?_, fun _ => ⟨gx_in _ (gx_m6j k i) (by omega) (by decide), gx_in _ (gx_m6j k i) (by omega) (by decide), ?_⟩⟩
    · rw [gl_5, nI_leI (by decide) (by omega)] at g; omega
    · rw [gx_cl _ (gx_m6j k i) (by omega)]
      refine hX _ _ ⟨by rw [gl_1, nI_add], fun j hj => ?_, fun q hq => ?_⟩
      · by_cases e : j = i
        · subst e
          rw [pk_us, c2 _ (by omega)]
        · rw [pk_un (by omega)]
          exact c1 j (by omega)
      · rw [pk_un (by omega)]
        exact c2 q (by omega)
  · rintro X a c ⟨rfl, c1, c2⟩
    unfold p_X11_turn_17
    refine ⟨fun _ => s_X11_pointsNow (by rw [c2 0 (by omega), h0]) (by rw [c2 1 (by omega), h1]) hn hm (fun m hs ps => hQ c m hs ps c1 c2), fun g => absurd (by rw [gl_5, nI_leI (by decide) (by decide)]; omega) g⟩
theorem o_turn {n mo u : Nat} {cells past now ahead h holds points : Nat → Int32} {size most draw known undos changes seen many a1 : Int32} {X : Int32 → Int32 → (Nat → Int32) → (Nat → Int32) → Int32 → (Nat → Int32) → Int32 → Int32 → (Nat → Int32) → (Nat → Int32) → (Nat → Int32) → (Nat → Int32) → Prop} (hB : gBook n mo u cells size most draw known past now undos ahead) (hne : ¬ seen = changes + nI 5) (hX0 : X known changes cells past seen h many undos ahead holds now points)
    (hX1 : ∀ u' c' p' h' m a' hs now' ps, gBook n mo u' c' size most draw (nI u') p' now' (nI u') a' → gVh (fun k j => c' (6 * k + j)) n mo h' → X (nI u') (changes + nI 5) c' p' (changes + nI 5) h' m (nI u') a' hs now' ps) : p_X10_turn known size most draw changes cells past seen h a1 (fun r1 y2 y3 y4 y5 y6 y7 => p_X11_turn many undos ahead holds now points a1 (fun r8 y9 y10 y11 y12 y13 y14 => r1 = r8 ∧ X y2 y3 y4 y5 y6 y7 y9 y10 y11 y12 y13 y14)) := by
  obtain ⟨hS, hu, hkn, hun, hP⟩ := id hB
  obtain ⟨hn, -, hm, hsz, hmo, h0, h1, -, -, hc, -⟩ := id hS
  subst hsz hmo
  unfold p_X10_turn
  by_cases hk : ∃ k, k < n ∧ a1 = nI k
  · obtain ⟨k, hk, rfl⟩ := hk
    refine s_noC_in hk hn ⟨fun _ => ?_, g00⟩
    refine s_X0_keep hu hkn (fun v d past' hs p1 p2 p3 p4 p5 => s_X9_negate (by omega) (fun c' c1 c2 => s_X5_pointCount hn hm (fun z => absurd z hne) (fun h' hh => ?_)))
    unfold p_X11_turn
    refine s_one_in h0 hk hn ⟨g10, fun _ => s_X11_notes hu hun (fun v' d' a' hs' q1 q2 => s_X11_turn_17 hk hn hm h0 h1 (fun now' m hsx ps w1 w2 => ?_))⟩
    obtain ⟨rfl, rfl⟩ := gSlot_fun hs hs'
    have hle := gSlot_le hs
    have hS' := gSnap_neg hS hk c1 c2 w1 w2
    refine ⟨by rw [gfull_fn hS'], hX1 _ _ _ _ _ _ _ _ _ ⟨hS', by omega, rfl, rfl, gPast_keep hs hP hS p1 p2 p3 p4 p5 q1 q2⟩ hh⟩
  · refine s_noC_out hk hn ⟨g10, fun _ => ?_⟩
    unfold p_X11_turn
    exact s_one_out h0 hk hn ⟨fun _ => ⟨rfl, hX0⟩, g00⟩
