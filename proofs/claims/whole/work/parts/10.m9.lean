/-! undone, kept, brought back -/
theorem o_undo {n mo u : Nat} {cells past now ahead : Nat → Int32} {size most draw known undos changes : Int32} {X : Int32 → Int32 → Int32 → Int32 → Int32 → (Nat → Int32) → Int32 → (Nat → Int32) → Prop} (hB : gBook n mo u cells size most draw known past now undos ahead) (hX0 : X known size most draw changes cells undos now)
    (hX1 : ∀ n' mo' u' s' m' d' cells' now', gBook n' mo' u' cells' s' m' d' (nI u') past now' (nI u') ahead → X (nI u') s' m' d' (changes + 1) cells' (nI u') now') : p_X10_undo known size most draw changes cells past (fun r1 y2 y3 y4 y5 y6 y7 => p_X11_undo undos ahead now (fun r8 y9 y10 => r1 = r8 ∧ X y2 y3 y4 y5 y6 y7 y9 y10)) := by
  obtain ⟨hS, hu, hkn, hun, hP⟩ := id hB
  unfold p_X10_undo p_X11_undo
  subst hkn
  subst hun
  refine ⟨fun e => ⟨fun _ => ⟨rfl, hX0⟩, fun g => absurd e g⟩, fun e => ?_⟩
  have hu0 : u ≠ 0 := fun z => e (by rw [z]; rfl)
  obtain ⟨w, rfl⟩ : ∃ w, u = w + 1 := ⟨u - 1, by omega⟩
  unfold p_X0_goBack p_X9_loadFrom
  rw [nI_pred, gx_51]
  have e0 : nI (51 * w) + (48 : Int32) = nI (51 * w + 48) := nI_add _ 48
  have e1 : nI (51 * w) + (48 : Int32) + (1 : Int32) = nI (51 * w + 49) := by rw [e0]; exact nI_add _ 1
  have e2 : nI (51 * w) + (48 : Int32) + (2 : Int32) = nI (51 * w + 50) := by rw [e0]; exact nI_add _ 2
  refine ⟨nI_pos (by omega), by decide, by decide, ?_, by decide, gx_in _ e0 (by omega) (by decide), gx_in _ e1 (by omega) (by decide), gx_in _ e2 (by omega) (by decide), fun g => absurd g e, fun _ => ?_⟩
  · rw [nI_clamp (by omega), gcl_48]; omega
  · rw [gx_cl _ e0 (by omega), gx_cl _ e1 (by omega), gx_cl _ e2 (by omega), nI_clamp (by omega), gcl_48, gcl_0]
    refine gi2_inv 51 (fun i a b => a = nI i ∧ ∀ q, q < i → b q = ahead (51 * w + q)) ?_ ?_ ⟨rfl, fun q hq => absurd hq (Nat.not_lt_zero q)⟩
    · rintro i hi X a b ⟨rfl, hb⟩ hX
      unfold p_X11_undo_22
      refine ⟨fun g => ?_, fun _ => ⟨gx_in _ (gx_51m w i) (by omega) (by decide), vp_in_nI hi (by decide), hX _ _ ⟨by rw [gl_1, nI_add], fun q hq => ?_⟩⟩⟩
      · rw [show (51 : Int32) = nI 51 from rfl, nI_leI (by decide) (by omega)] at g; omega
      · rw [gx_cl _ (gx_51m w i) (by omega), nI_clamp (by omega)]
        by_cases e : q = i
        · subst e; rw [pk_us]
        · rw [pk_un e]; exact hb q (by omega)
    · rintro Y a b ⟨rfl, hb⟩
      unfold p_X11_undo_22
      refine ⟨fun _ => ⟨rfl, ?_⟩, fun g => absurd (by rw [show (51 : Int32) = nI 51 from rfl, nI_leI (by decide) (by decide)]; omega) g⟩
      obtain ⟨n', mo', hs⟩ := hP w (by omega)
      refine hX1 n' mo' w _ _ _ _ _ ⟨hs.cg (fun q hq => ?_) hb, by omega, rfl, rfl, fun i hi => hP i (by omega)⟩
      rw [pk_cpy_in (by omega) (by omega)]
      rfl
theorem s_X0_take {known size most draw changes : Int32} {cells past : Nat → Int32} {k' s' m' d' : Int32} {c' p' : Nat → Int32} {Q : Int32 → Int32 → Int32 → Int32 → Int32 → (Nat → Int32) → (Nat → Int32) → Prop} (hQ : ∀ c2 p2, (∀ q, q < 48 → c2 q = c' q) → (∀ q, q < 408 → p2 q = p' q) → Q k' s' m' d' (changes + 1) c2 p2) : p_X0_take known size most draw changes cells past k' s' m' d' c' p' Q := by
  unfold p_X0_take p_X9_take
  refine ⟨by decide, by decide, by decide, by decide, by decide, by decide, by decide, by decide, by decide, by decide, hQ _ _ (fun q hq => ?_) (fun q hq => ?_)⟩
  · rw [gcl_48, gcl_0, pk_cpy_in (by omega) (by omega)]
    congr 1
    omega
  · rw [gcl_408, gcl_0, pk_cpy_in (by omega) (by omega)]
    congr 1
    omega
theorem gBook.cg {n mo u : Nat} {cells past now ahead cells' past' now' ahead' : Nat → Int32} {size most draw known undos : Int32} (hB : gBook n mo u cells size most draw known past now undos ahead) (h1 : ∀ q, q < 48 → cells' q = cells q) (h2 : ∀ q, q < 408 → past' q = past q) (h3 : ∀ q, q < 51 → now' q = now q) (h4 : ∀ q, q < 408 → ahead' q = ahead q) : gBook n mo u cells' size most draw known past' now' undos ahead' := by
  obtain ⟨hS, hu, hkn, hun, hP⟩ := hB
  exact ⟨hS.cg h1 h3, hu, hkn, hun, hP.cg hu h2 h4⟩
/-- a row of the other class copied into another one -/
theorem s_cp51 {f : (Int32 → (Nat → Int32) → Prop) → Int32 → (Nat → Int32) → Prop} {src dst : Nat → Int32} (N : Nat) (hN : N < 2 ^ 31)
    (hs : ∀ i, i < N → ∀ (X : Int32 → (Nat → Int32) → Prop) b, X (nI (i + 1)) (upd b i (src i)) → f X (nI i) b) (he : ∀ (X : Int32 → (Nat → Int32) → Prop) b, (∀ q, q < N → b q = src q) → f X (nI N) b) : ∃ k, gi2 f k (0 : Int32) dst := by
  refine gi2_inv N (fun i a b => a = nI i ∧ ∀ q, q < i → b q = src q) ?_ ?_ ⟨rfl, fun q hq => absurd hq (Nat.not_lt_zero q)⟩
  · rintro i hi X a b ⟨rfl, hb⟩ hX
    refine hs i hi X b (hX _ _ ⟨rfl, fun q hq => ?_⟩)
    by_cases e : q = i
    · subst e; rw [pk_us]
    · rw [pk_un e]; exact hb q (by omega)
  · rintro X a b ⟨rfl, hb⟩
    exact he X b hb
theorem gl_51 : (51 : Int32) = nI 51 := rfl
theorem gl_408 : (408 : Int32) = nI 408 := rfl
theorem s_X11_image {undos keptUndos : Int32} {ahead kept keptAhead now : Nat → Int32} {Q : Int32 → Int32 → (Nat → Int32) → (Nat → Int32) → Prop} (hQ : ∀ k2 a2, (∀ q, q < 51 → k2 q = now q) → (∀ q, q < 408 → a2 q = ahead q) → Q 1 undos k2 a2) : p_X11_image undos keptUndos ahead kept keptAhead now Q := by
  unfold p_X11_image
  refine s_cp51 (src := now) 51 (by decide) (fun i hi X b hX => ?_) (fun X b hb => ?_)
  · unfold p_X11_image_2
    refine ⟨fun g => ?_, fun _ => ⟨vp_in_nI hi (by decide), vp_in_nI hi (by decide), ?_⟩⟩
    · rw [gl_51, nI_leI (by decide) (by omega)] at g; omega
    · rw [nI_clamp (by omega), gl_1, nI_add]; exact hX
  · unfold p_X11_image_2
    refine ⟨fun _ => ?_, fun g => absurd (by rw [gl_51, nI_leI (by decide) (by decide)]; omega) g⟩
    refine s_cp51 (src := ahead) 408 (by decide) (fun i hi X c hX => ?_) (fun X c hc => ?_)
    · unfold p_X11_image_28
      refine ⟨fun g => ?_, fun _ => ⟨vp_in_nI hi (by decide), vp_in_nI hi (by decide), ?_⟩⟩
      · rw [gl_408, nI_leI (by decide) (by omega)] at g; omega
      · rw [nI_clamp (by omega), gl_1, nI_add]; exact hX
    · unfold p_X11_image_28
      exact ⟨fun _ => hQ b c hb hc, fun g => absurd (by rw [gl_408, nI_leI (by decide) (by decide)]; omega) g⟩
theorem s_X11_restore {undos keptUndos : Int32} {ahead kept keptAhead now : Nat → Int32} {Q : Int32 → Int32 → (Nat → Int32) → (Nat → Int32) → Prop} (h0 : 0 ≤ keptUndos) (hQ : ∀ n2 a2, (∀ q, q < 51 → n2 q = kept q) → (∀ q, q < 408 → a2 q = keptAhead q) → Q 1 keptUndos a2 n2) : p_X11_restore undos keptUndos ahead kept keptAhead now Q := by
  unfold p_X11_restore
  refine ⟨fun _ => ?_, fun g => absurd h0 g⟩
  refine s_cp51 (src := kept) 51 (by decide) (fun i hi X b hX => ?_) (fun X b hb => ?_)
  · unfold p_X11_restore_12
    refine ⟨fun g => ?_, fun _ => ⟨vp_in_nI hi (by decide), vp_in_nI hi (by decide), ?_⟩⟩
    · rw [gl_51, nI_leI (by decide) (by omega)] at g; omega
    · rw [nI_clamp (by omega), gl_1, nI_add]; exact hX
  · unfold p_X11_restore_12
    refine ⟨fun _ => ?_, fun g => absurd (by rw [gl_51, nI_leI (by decide) (by decide)]; omega) g⟩
    refine s_cp51 (src := keptAhead) 408 (by decide) (fun i hi X c hX => ?_) (fun X c hc => ?_)
    · unfold p_X11_restore_38
      refine ⟨fun g => ?_, fun _ => ⟨vp_in_nI hi (by decide), vp_in_nI hi (by decide), ?_⟩⟩
      · rw [gl_408, nI_leI (by decide) (by omega)] at g; omega
      · rw [nI_clamp (by omega), gl_1, nI_add]; exact hX
    · unfold p_X11_restore_38
      exact ⟨fun _ => hQ b c hb hc, fun g => absurd (by rw [gl_408, nI_leI (by decide) (by decide)]; omega) g⟩
/-- the image -/
def gKept (has : Int32) (cells : Nat → Int32) (size most draw known : Int32) (past kept : Nat → Int32) (keptUndos : Int32) (keptAhead : Nat → Int32) : Prop := (has = 0 ∧ keptUndos = -1) ∨ (has = 1 ∧ ∃ n mo u, gBook n mo u cells size most draw known past kept keptUndos keptAhead)
theorem o_image {n mo u : Nat} {cells past now ahead kc kp kept keptAhead : Nat → Int32} {size most draw known undos has kk ks km kd kch keptUndos : Int32} {X : Int32 → Int32 → Int32 → Int32 → Int32 → Int32 → (Nat → Int32) → (Nat → Int32) → Int32 → (Nat → Int32) → (Nat → Int32) → Prop} (hB : gBook n mo u cells size most draw known past now undos ahead)
    (hX : ∀ h' k' s' m' d' c' kc' kp' ku' kept' ka', gKept h' kc' s' m' d' k' kp' kept' ku' ka' → X h' k' s' m' d' c' kc' kp' ku' kept' ka') : p_X10_image has known size most draw cells past kk ks km kd kch kc kp (fun r1 y2 y3 y4 y5 y6 y7 y8 y9 => p_X11_image undos keptUndos ahead kept keptAhead now (fun r10 y11 y12 y13 => r1 = r10 ∧ X y2 y3 y4 y5 y6 y7 y8 y9 y11 y12 y13)) := by
  unfold p_X10_image
  refine s_X0_take (fun c2 p2 g1 g2 => s_X11_image (fun k2 a2 g3 g4 => ⟨rfl, hX _ _ _ _ _ _ _ _ _ _ _ (Or.inr ⟨rfl, n, mo, u, hB.cg g1 g2 g3 g4⟩)⟩))
theorem o_restore {cells past now ahead kc kp kept keptAhead : Nat → Int32} {size most draw known undos has kk ks km kd changes keptUndos : Int32} {X : Int32 → Int32 → Int32 → Int32 → Int32 → (Nat → Int32) → (Nat → Int32) → Int32 → (Nat → Int32) → (Nat → Int32) → Prop} (hK : gKept has kc ks km kd kk kp kept keptUndos keptAhead) (hX0 : X known size most draw changes cells past undos ahead now)
    (hX1 : ∀ n' mo' u' k' s' m' d' c' p' un' ah' now', gBook n' mo' u' c' s' m' d' k' p' now' un' ah' → X k' s' m' d' (changes + 1) c' p' un' ah' now') : p_X10_restore has known size most draw changes cells past kk ks km kd kc kp (fun r1 y2 y3 y4 y5 y6 y7 y8 => p_X11_restore undos keptUndos ahead kept keptAhead now (fun r9 y10 y11 y12 => r1 = r9 ∧ X y2 y3 y4 y5 y6 y7 y8 y10 y11 y12)) := by
  unfold p_X10_restore
  rcases hK with ⟨rfl, rfl⟩ | ⟨rfl, n, mo, u, hB⟩
  · refine ⟨fun _ => ?_, g00⟩
    unfold p_X11_restore
    exact ⟨fun g => absurd g (by decide), fun _ => ⟨rfl, hX0⟩⟩
  · refine ⟨g10, fun _ => s_X0_take (fun c2 p2 g1 g2 => s_X11_restore ?_ (fun n2 a2 g3 g4 => ⟨rfl, hX1 n mo u _ _ _ _ _ _ _ _ _ (hB.cg g1 g2 g3 g4)⟩))⟩
    rw [hB.2.2.2.1]
    exact nI_pos' (by have := hB.2.1; omega)
