/-! what is told: changed, shaped, called, taken back, kept -/
theorem gSnap_set {n mo k j : Nat} {cells now : Nat → Int32} {size most draw v : Int32} (hS : gSnap n mo cells size most draw now) (hk : k < n) (hj : j < 6) (h4 : j < 4 → -9 ≤ v.toInt ∧ v.toInt ≤ 9) (h5 : j = 4 → -99 ≤ v.toInt ∧ v.toInt ≤ 99) (h6 : j = 5 → ∃ c, c ≤ 4 ∧ v = nI c) : gSnap n mo (upd cells (6 * k + j) v) size most draw (upd now (3 + 6 * k + j) v) := by
  obtain ⟨g1, g2, g3, g4, g5, g6, g7, g8, g9, g10, g11⟩ := hS
  refine ⟨g1, g2, g3, g4, g5, by rw [pk_un (by omega), g6], by rw [pk_un (by omega), g7], by rw [pk_un (by omega), g8], g9, fun k' hk' j' hj' => ?_, fun k' hk' => ⟨fun j' hj' => ?_, ?_, ?_⟩⟩
  · by_cases e : 6 * k' + j' = 6 * k + j
    · rw [e, show 3 + 6 * k' + j' = 3 + 6 * k + j by omega, pk_us, pk_us]
    · rw [pk_un e, pk_un (by omega)]
      exact g10 k' hk' j' hj'
  · by_cases e : 6 * k' + j' = 6 * k + j
    · rw [e, pk_us]
      exact h4 (by omega)
    · rw [pk_un e]
      exact (g11 k' hk').1 j' hj'
  · by_cases e : 6 * k' + 4 = 6 * k + j
    · rw [e, pk_us]
      exact h5 (by omega)
    · rw [pk_un e]
      exact (g11 k' hk').2.1
  · by_cases e : 6 * k' + 5 = 6 * k + j
    · rw [e, pk_us]
      exact h6 (by omega)
    · rw [pk_un e]
      exact (g11 k' hk').2.2
theorem s_X10_replace {k j u : Nat} {known size most draw changes v : Int32} {cells past : Nat → Int32} {Q : Int32 → Int32 → Int32 → (Nat → Int32) → (Nat → Int32) → Prop} (hk : k < 8) (hj : j < 6) (hu : u ≤ 8) (hkn : known = nI u) (h1 : cells (6 * k + j) = v → Q (-1000002) known changes cells past)
    (h2 : ¬ cells (6 * k + j) = v → ∀ w d past', gSlot u w d → (∀ i, i < w → ∀ q, q < 51 → past' (51 * i + q) = past (51 * (i + d) + q)) → (∀ q, q < 48 → past' (51 * w + q) = cells q) → past' (51 * w + 48) = size → past' (51 * w + 49) = most → past' (51 * w + 50) = draw → Q (cells (6 * k + j)) (nI (w + 1)) (changes + 1) (upd cells (6 * k + j) v) past') : p_X10_replace known size most draw changes cells past (nI k) (nI j) v Q := by
  unfold p_X10_replace p_X9_cell p_X9_setCell
  refine ⟨gx_in _ (gx_6 k j) (by omega) (by decide), ?_⟩
  rw [gx_cl _ (gx_6 k j) (by omega)]
  refine ⟨h1, fun g => s_X0_keep hu hkn (fun w d past' hs p1 p2 p3 p4 p5 => ⟨gx_in _ (gx_6 k j) (by omega) (by decide), h2 g w d past' hs p1 p2 p3 p4 p5⟩)⟩
theorem o_change {n mo u : Nat} {cells past now ahead : Nat → Int32} {size most draw known undos changes a1 a2 a3 : Int32} {X : Int32 → Int32 → (Nat → Int32) → (Nat → Int32) → Int32 → (Nat → Int32) → (Nat → Int32) → Prop} (hB : gBook n mo u cells size most draw known past now undos ahead) (hX0 : X known changes cells past undos ahead now)
    (hX1 : ∀ u' cells' past' now' ahead', gBook n mo u' cells' size most draw (nI u') past' now' (nI u') ahead' → X (nI u') (changes + 1) cells' past' (nI u') ahead' now') : p_X10_change known size most draw changes cells past a1 a2 a3 (fun r1 y2 y3 y4 y5 => p_X11_change undos ahead now a1 a2 a3 (fun r6 y7 y8 y9 => r1 = r6 ∧ X y2 y3 y4 y5 y7 y8 y9)) := by
  obtain ⟨hS, hu, hkn, hun, hP⟩ := id hB
  obtain ⟨hn, -, -, hsz, -, h0, -, -, -, hc, -⟩ := id hS
  subst hsz
  unfold p_X10_change
  by_cases h : ∃ k, k < n ∧ a1 = nI k
  · obtain ⟨k, hk, rfl⟩ := h
    refine s_noC_in hk hn ⟨fun _ => ?_, g00⟩
    by_cases hw : ∃ j, j < 5 ∧ a2 = nI j
    · obtain ⟨j, hj, rfl⟩ := hw
      refine s_oR_in hj (by decide) rfl ⟨fun _ => ?_, g00⟩
      have key : ∀ (s0 : Int32) (t1 t2 : Int64) (b : Int), s0.toInt = b → (-s0).toInt = -b → t1.toInt = -b → t2.toInt = b → (j < 4 → b = 9) → (j = 4 → b = 99) →
          (∀ Q, p_X11_change_50 undos ahead now (nI k) (nI j) a3 a3.toInt64 t1 t2 Q → p_X11_change undos ahead now (nI k) (nI j) a3 Q) →
          p_X10_change_32 known (nI n) most draw changes cells past (nI k) (nI j) a3 s0 (fun r1 y2 y3 y4 y5 => p_X11_change undos ahead now (nI k) (nI j) a3 (fun r6 y7 y8 y9 => r1 = r6 ∧ X y2 y3 y4 y5 y7 y8 y9)) := by
        intro s0 t1 t2 b e1 e2 e3 e4 b1 b2 lead
        unfold p_X10_change_32
        by_cases hv : -b ≤ a3.toInt ∧ a3.toInt ≤ b
        · refine s_out_in (by rw [e1, e2]; exact hv) ⟨fun _ => s_X10_replace (by omega) (by omega) hu hkn (fun e => lead _ ?_) (fun e w d past' hs p1 p2 p3 p4 p5 => lead _ ?_), g00⟩
          · unfold p_X11_change_50
            refine s_in_in (by rw [e3, e4, gm_l]; exact hv) ⟨g10, fun _ => ⟨gx_in _ (gx_m6j k j) (by omega) (by decide), fun z hz => ?_⟩⟩
            rw [gx_cl _ (gx_m6j k j) (by omega), ← hc k hk j (by omega)] at hz
            exact ⟨fun _ => ⟨rfl, hX0⟩, fun g => absurd (by rw [hz]; exact e) g⟩
          · unfold p_X11_change_50
            refine s_in_in (by rw [e3, e4, gm_l]; exact hv) ⟨g10, fun _ => ⟨gx_in _ (gx_m6j k j) (by omega) (by decide), fun z hz => ?_⟩⟩
            rw [gx_cl _ (gx_m6j k j) (by omega), ← hc k hk j (by omega)] at hz
            refine ⟨fun g => absurd (by rw [← hz]; exact g) e, fun _ => s_X11_notes hu hun (fun w' d' a' hs' q1 q2 => ⟨gx_in _ (gx_m6j k j) (by omega) (by decide), by rw [hz], ?_⟩)⟩
            obtain ⟨rfl, rfl⟩ := gSlot_fun hs hs'
            rw [gx_cl _ (gx_m6j k j) (by omega)]
            have hle := gSlot_le hs
            exact hX1 _ _ _ _ _ ⟨gSnap_set hS hk (by omega) (fun z => by rw [← b1 z]; exact hv) (fun z => by rw [← b2 z]; exact hv) (fun z => by omega), by omega, rfl, rfl, gPast_keep hs hP hS p1 p2 p3 p4 p5 q1 q2⟩
        · refine s_out_out (by rw [e1, e2]; exact hv) ⟨g10, fun _ => lead _ ?_⟩
          unfold p_X11_change_50
          exact s_in_out (by rw [e3, e4, gm_l]; exact hv) ⟨fun _ => ⟨rfl, hX0⟩, g00⟩
      refine ⟨fun g => ?_, fun g => ?_⟩
      · rw [gl_4, nI_eq (by omega) (by decide)] at g
        refine key (99 : Int32) (-99 : Int64) (99 : Int64) 99 rfl rfl rfl rfl (by omega) (fun _ => rfl) (fun Q hQ => ?_)
        unfold p_X11_change p_X11_change_36
        refine s_one_in h0 hk hn ⟨g10, fun _ => s_iR_in hj (by decide) (by decide) ⟨g10, fun _ => ⟨fun _ => ⟨fun _ => hQ, fun z => absurd (by rw [g]; rfl) z⟩, fun z => absurd (by rw [g]; rfl) z⟩⟩⟩
      · rw [gl_4, nI_eq (by omega) (by decide)] at g
        refine key (9 : Int32) (-9 : Int64) (9 : Int64) 9 rfl rfl rfl rfl (fun _ => rfl) (by omega) (fun Q hQ => ?_)
        have g' : ¬ nI j = (4 : Int32) := by rw [gl_4, nI_eq (by omega) (by decide)]; exact g
        unfold p_X11_change p_X11_change_36
        refine s_one_in h0 hk hn ⟨g10, fun _ => s_iR_in hj (by decide) (by decide) ⟨g10, fun _ => ⟨fun z => absurd z g', fun _ => ⟨fun z => absurd z g', fun _ => hQ⟩⟩⟩⟩
    · refine s_oR_out hw (by decide) (by decide) rfl ⟨g10, fun _ => ?_⟩
      unfold p_X11_change
      exact s_one_in h0 hk hn ⟨g10, fun _ => s_iR_out hw (by decide) (by decide) ⟨fun _ => ⟨rfl, hX0⟩, g00⟩⟩
  · refine s_noC_out h hn ⟨g10, fun _ => ?_⟩
    unfold p_X11_change
    exact s_one_out h0 h hn ⟨fun _ => ⟨rfl, hX0⟩, g00⟩
theorem o_shape {n mo u : Nat} {cells past now ahead : Nat → Int32} {size most draw known undos changes a1 a2 : Int32} {X : Int32 → Int32 → (Nat → Int32) → (Nat → Int32) → Int32 → (Nat → Int32) → (Nat → Int32) → Prop} (hB : gBook n mo u cells size most draw known past now undos ahead) (hX0 : X known changes cells past undos ahead now)
    (hX1 : ∀ u' cells' past' now' ahead', gBook n mo u' cells' size most draw (nI u') past' now' (nI u') ahead' → X (nI u') (changes + 1) cells' past' (nI u') ahead' now') : p_X10_shape known size most draw changes cells past a1 a2 (fun r1 y2 y3 y4 y5 => p_X11_shape undos ahead now a1 a2 (fun r6 y7 y8 y9 => r1 = r6 ∧ X y2 y3 y4 y5 y7 y8 y9)) := by
  obtain ⟨hS, hu, hkn, hun, hP⟩ := id hB
  obtain ⟨hn, -, -, hsz, -, h0, -, -, -, hc, -⟩ := id hS
  subst hsz
  unfold p_X10_shape
  by_cases h : ∃ k, k < n ∧ a1 = nI k
  · obtain ⟨k, hk, rfl⟩ := h
    refine s_noC_in hk hn ⟨fun _ => ?_, g00⟩
    have e5 : (3 : Int32) + ((6 : Int32) * nI k) + (5 : Int32) = nI (3 + 6 * k + 5) := gx_m6j k 5
    by_cases hw : ∃ j, j < 5 ∧ a2 = nI j
    · obtain ⟨c, hcc, rfl⟩ := hw
      refine s_oR_in hcc (by decide) rfl ⟨fun _ => s_X10_replace (j := 5) (by omega) (by omega) hu hkn (fun e => ?_) (fun e w d past' hs p1 p2 p3 p4 p5 => ?_), g00⟩
      · unfold p_X11_shape
        refine s_one_in h0 hk hn ⟨g10, fun _ => s_iR_in hcc (by decide) (by decide) ⟨g10, fun _ z hz => ⟨gx_in _ (hz.trans e5) (by omega) (by decide), ?_⟩⟩⟩
        rw [gx_cl _ (hz.trans e5) (by omega), ← hc k hk 5 (by omega)]
        exact ⟨fun _ => ⟨rfl, hX0⟩, fun g => absurd e g⟩
      · unfold p_X11_shape
        refine s_one_in h0 hk hn ⟨g10, fun _ => s_iR_in hcc (by decide) (by decide) ⟨g10, fun _ z hz => ⟨gx_in _ (hz.trans e5) (by omega) (by decide), ?_⟩⟩⟩
        rw [gx_cl _ (hz.trans e5) (by omega)]
        refine ⟨fun g => absurd (by rw [hc k hk 5 (by omega)]; exact g) e, fun _ => s_X11_notes hu hun (fun w' d' a' hs' q1 q2 => ⟨gx_in _ (hz.trans e5) (by omega) (by decide), hc k hk 5 (by omega), ?_⟩)⟩
        obtain ⟨rfl, rfl⟩ := gSlot_fun hs hs'
        have hle := gSlot_le hs
        exact hX1 _ _ _ _ _ ⟨gSnap_set hS hk (by omega) (fun z => by omega) (fun z => by omega) (fun z => ⟨c, by omega, rfl⟩), by omega, rfl, rfl, gPast_keep hs hP hS p1 p2 p3 p4 p5 q1 q2⟩
    · refine s_oR_out hw (by decide) (by decide) rfl ⟨g10, fun _ => ?_⟩
      unfold p_X11_shape
      exact s_one_in h0 hk hn ⟨g10, fun _ => s_iR_out hw (by decide) (by decide) ⟨fun _ => ⟨rfl, hX0⟩, g00⟩⟩
  · refine s_noC_out h hn ⟨g10, fun _ => ?_⟩
    unfold p_X11_shape
    exact s_one_out h0 h hn ⟨fun _ => ⟨rfl, hX0⟩, g00⟩
theorem gSnap_most {n mo m : Nat} {cells now : Nat → Int32} {size most draw : Int32} (hS : gSnap n mo cells size most draw now) (h1 : 1 ≤ m) (h7 : m ≤ 7) : gSnap n m cells size (nI m) draw (upd now 1 (nI m)) := by
  obtain ⟨g1, g2, g3, g4, g5, g6, g7, g8, g9, g10, g11⟩ := hS
  refine ⟨g1, h1, h7, g4, rfl, by rw [pk_un (by decide), g6], pk_us, by rw [pk_un (by decide), g8], g9, fun k hk j hj => ?_, g11⟩
  rw [pk_un (by omega)]
  exact g10 k hk j hj
theorem o_call {n mo u : Nat} {cells past now ahead : Nat → Int32} {size most draw known undos changes a1 : Int32} {X : Int32 → Int32 → Int32 → (Nat → Int32) → Int32 → (Nat → Int32) → (Nat → Int32) → Prop} (hB : gBook n mo u cells size most draw known past now undos ahead) (hX0 : X known most changes past undos ahead now)
    (hX1 : ∀ u' m past' now' ahead', gBook n m u' cells size (nI m) draw (nI u') past' now' (nI u') ahead' → X (nI u') (nI m) (changes + 1) past' (nI u') ahead' now') : p_X10_call known size most draw changes cells past a1 (fun r1 y2 y3 y4 y5 => p_X11_call undos ahead now a1 (fun r6 y7 y8 y9 => r1 = r6 ∧ X y2 y3 y4 y5 y7 y8 y9)) := by
  obtain ⟨hS, hu, hkn, hun, hP⟩ := id hB
  obtain ⟨hn, m1, m7, hsz, hmo, h0, hm1, -, -, hc, -⟩ := id hS
  unfold p_X10_call
  by_cases h : ∃ c, 1 ≤ c ∧ c ≤ 7 ∧ a1 = nI c
  · have h' := (gm_rng (by decide) (by decide)).mp h
    obtain ⟨m, c1, c2, rfl⟩ := h
    refine s_out_in h' ⟨fun _ => ⟨fun e => ?_, fun e => s_X0_keep hu hkn (fun w d past' hs p1 p2 p3 p4 p5 => ?_)⟩, g00⟩
    · unfold p_X11_call
      refine s_in_in (by rw [gm_l]; exact h') ⟨g10, fun _ => ⟨gx_in 1 rfl (by decide) (by decide), ?_⟩⟩
      rw [gcl_1, hm1, ← hmo]
      exact ⟨fun _ => ⟨rfl, hX0⟩, fun g => absurd e g⟩
    · unfold p_X9_setMost p_X11_call
      refine s_in_in (by rw [gm_l]; exact h') ⟨g10, fun _ => ⟨gx_in 1 rfl (by decide) (by decide), ?_⟩⟩
      rw [gcl_1, hm1, ← hmo]
      refine ⟨fun g => absurd g e, fun _ => s_X11_notes hu hun (fun w' d' a' hs' q1 q2 => ⟨gx_in 1 rfl (by decide) (by decide), rfl, ?_⟩)⟩
      obtain ⟨rfl, rfl⟩ := gSlot_fun hs hs'
      have hle := gSlot_le hs
      exact hX1 _ _ _ _ _ ⟨gSnap_most hS c1 c2, by omega, rfl, rfl, gPast_keep hs hP hS p1 p2 p3 p4 p5 q1 q2⟩
  · have h' := fun z => h ((gm_rng (by decide) (by decide)).mpr z)
    refine s_out_out h' ⟨g10, fun _ => ?_⟩
    unfold p_X11_call
    exact s_in_out (by rw [gm_l]; exact h') ⟨fun _ => ⟨rfl, hX0⟩, g00⟩
theorem o_seed {n mo u : Nat} {cells past now ahead : Nat → Int32} {size most draw known undos a1 : Int32} {X : Int32 → (Nat → Int32) → Prop} (hB : gBook n mo u cells size most draw known past now undos ahead) (hX0 : X draw now)
    (hX1 : ∀ d' now', gBook n mo u cells size most d' known past now' undos ahead → X d' now') : p_X10_seed draw a1 (fun r1 y2 => p_X11_seed now a1 (fun r3 y4 => r1 = r3 ∧ X y2 y4)) := by
  obtain ⟨hS, hu, hkn, hun, hP⟩ := id hB
  obtain ⟨g1, g2, g3, g4, g5, g6, g7, g8, g9, g10, g11⟩ := id hS
  unfold p_X10_seed p_X11_seed
  refine ⟨fun g => ⟨fun _ => ⟨gx_in 2 rfl (by decide) (by decide), gx_in 2 rfl (by decide) (by decide), ?_⟩, fun z => absurd g z⟩, fun g => ⟨fun z => absurd z g, fun _ => ⟨rfl, hX0⟩⟩⟩
  have e2 : (2 : Int32).toNatClampNeg = 2 := by decide
  rw [e2, g8]
  refine ⟨rfl, hX1 _ _ ⟨⟨g1, g2, g3, g4, g5, by rw [pk_un (by decide), g6], by rw [pk_un (by decide), g7], pk_us, ?_, fun k hk j hj => ?_, g11⟩, hu, hkn, hun, hP⟩⟩
  · rw [Int32.le_iff_toInt_le] at g
    exact g
  · rw [pk_un (by omega)]
    exact g10 k hk j hj
