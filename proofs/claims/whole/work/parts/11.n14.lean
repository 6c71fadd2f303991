/-! apart -/
theorem s_X11_apart {many : Int32} {holds now points : Nat → Int32} {n mo i o w : Nat} {Q : Int32 → Int32 → (Nat → Int32) → (Nat → Int32) → Prop} (h0 : now 0 = nI n) (h1 : now 1 = nI mo) (hn : n ≤ 8) (hm : mo ≤ 7) (hi : i < 4) (ho : o < 4) (hio : i ≠ o) (hw : w < 3)
    (hQ : ∀ m hs ps, (w = 2 → p_X11_bits (nI (gor (gfull (fun k j => now (3 + 6 * k + j)) n mo) (fun p => gv p o + 7 - gv p i) 4096)) (fun r => Q r m hs ps)) ∧ (¬ w = 2 → gor (gfull (fun k j => now (3 + 6 * k + j)) n mo) (fun p => gv p o + 7 - gv p i) 4096 = 0 → Q (-1000004) m hs ps) ∧ (¬ gor (gfull (fun k j => now (3 + 6 * k + j)) n mo) (fun p => gv p o + 7 - gv p i) 4096 = 0 → w = 0 → p_X11_least (nI (gor (gfull (fun k j => now (3 + 6 * k + j)) n mo) (fun p => gv p o + 7 - gv p i) 4096)) (fun r => Q (r - 7) m hs ps)) ∧ (¬ gor (gfull (fun k j => now (3 + 6 * k + j)) n mo) (fun p => gv p o + 7 - gv p i) 4096 = 0 → w = 1 → p_X11_greatest (nI (gor (gfull (fun k j => now (3 + 6 * k + j)) n mo) (fun p => gv p o + 7 - gv p i) 4096)) (fun r => Q (r - 7) m hs ps))) : p_X11_apart many holds now points (nI i) (nI o) (nI w) Q := by
  have hlt : gor (gfull (fun k j => now (3 + 6 * k + j)) n mo) (fun p => gv p o + 7 - gv p i) 4096 < 32768 := gor_lt (fun p => by have := gv_lt p o; show gv p o + 7 - gv p i < 15; omega) _
  unfold p_X11_apart p_X11_isVariable
  refine s_iR_in hi (by decide) (by decide) ⟨rfl, ⟨g10, fun _ => s_iR_in ho (by decide) (by decide) ⟨rfl, ⟨g10, fun _ => ⟨fun g => ?_, fun _ => s_iR_in hw (by decide) (by decide) ⟨g10, fun _ => s_X11_lays h0 h1 hn hm (fun hs ps hL => ?_)⟩⟩⟩⟩⟩⟩
  · rw [nI_eq (by omega) (by omega)] at g; exact absurd g hio
  obtain ⟨G, hG⟩ := gwalk (gbox mo) (fun q => nI (gor (gfull (fun k j => now (3 + 6 * k + j)) n mo) (fun p => gv p o + 7 - gv p i) q)) (fun q hq => by rw [gor_f (fun z => hq (gfull_box z))]) 4096
  have hle := gcnt_le (gbox mo) 4096
  refine gi2_inv (gcnt (gbox mo) 4096) (fun k a b => b = nI k ∧ a = G k) ?_ ?_ ⟨rfl, (hG 0 (by decide)).symm⟩
  · rintro k hk X a b ⟨rfl, rfl⟩ hX
    obtain ⟨q, hq, hb, hc⟩ := gcnt_sur (gbox mo) 4096 k hk
    obtain ⟨l1, l2⟩ := hL q hq hb
    have g1 := hG q (by omega)
    have g2 := hG (q + 1) (by omega)
    rw [gcnt_s hb] at g2
    rw [hc] at l1 l2 g1 g2
    have en : nI k + (1 : Int32) = nI (k + 1) := nI_add k 1
    have w1 := gv_lt q o
    have w2 := gv_lt q i
    unfold p_X11_apart_44 p_X11_apart_105
    refine ⟨fun g => ?_, fun _ => ⟨vp_in_nI (by omega) (by decide), ?_⟩⟩
    · rw [nI_leI (by omega) (by omega)] at g; omega
    · rw [nI_clamp (by omega), l1, l2, en]
      refine s_X11_valueOf hq ho rfl ⟨vp_in_nI (by omega) (by decide), s_X11_valueOf hq hi rfl ⟨vp_in_nI (by omega) (by decide), s_X11_all h0 hn ?_⟩⟩
      rw [gfull_eq hn hb]
      refine ⟨fun g => ?_, fun g => ?_⟩
      · rw [g1, gm_gap _ w1 _ w2, gm_1sl _ (by omega), gm_orN]
        exact hX _ _ ⟨rfl, by rw [g2, gor_t g]⟩
      · rw [Int32.or_zero]
        exact hX _ _ ⟨rfl, by rw [g1, g2, gor_f g]⟩
  · rintro X a b ⟨rfl, rfl⟩
    have g1 := hG 4096 (by decide)
    unfold p_X11_apart_44 p_X11_apart_152
    refine ⟨fun _ => ?_, fun g => absurd (by rw [nI_leI (by omega) (by omega)]; exact Nat.le_refl _) g⟩
    rw [g1]
    obtain ⟨q1, q2, q3, q4⟩ := hQ (nI (gcnt (gbox mo) 4096)) hs ps
    refine ⟨fun g => ?_, fun g => ⟨fun gz => ?_, fun gz => ⟨fun g2 => ?_, fun g2 => ?_⟩⟩⟩
    · rw [gl_2, nI_eq (by omega) (by decide)] at g; exact q1 g
    · rw [gl_0, nI_eq (by omega) (by decide)] at gz
      rw [gl_2, nI_eq (by omega) (by decide)] at g
      exact q2 g gz
    · rw [gl_0, nI_eq (by omega) (by decide)] at gz g2; exact q3 gz g2
    · rw [gl_0, nI_eq (by omega) (by decide)] at gz g2
      rw [gl_2, nI_eq (by omega) (by decide)] at g
      exact q4 gz (by omega)
theorem o_apart {n mo : Nat} {cells now h holds points : Nat → Int32} {size most draw changes seen many a1 a2 a3 : Int32} {X : Int32 → (Nat → Int32) → Int32 → (Nat → Int32) → (Nat → Int32) → Prop} (hS : gSnap n mo cells size most draw now) (hv : seen = changes → gVh (fun k j => cells (6 * k + j)) n mo h) (hX0 : X seen h many holds points)
    (hX1 : ∀ h' m hs ps, gVh (fun k j => cells (6 * k + j)) n mo h' → X changes h' m hs ps) : p_X10_apart size most changes cells seen h a1 a2 a3 (fun r1 y2 y3 => p_X11_apart many holds now points a1 a2 a3 (fun r4 y5 y6 y7 => r1 = r4 ∧ X y2 y3 y5 y6 y7)) := by
  have hF := gfull_fn hS
  obtain ⟨hn, -, hm, rfl, rfl, h0, h1, -, -, hc, -⟩ := id hS
  unfold p_X10_apart p_X10_isNoVariable
  by_cases hi : ∃ i, i < 4 ∧ a1 = nI i
  · obtain ⟨i, hi, rfl⟩ := hi
    refine s_oR_in hi (by decide) rfl ⟨rfl, ⟨fun _ => ?_, g00⟩⟩
    by_cases ho : ∃ o, o < 4 ∧ a2 = nI o
    · obtain ⟨o, ho, rfl⟩ := ho
      refine s_oR_in ho (by decide) rfl ⟨rfl, ⟨fun _ => ⟨fun g => ?_, fun g => ?_⟩, g00⟩⟩
      · unfold p_X11_apart p_X11_isVariable
        exact s_iR_in hi (by decide) (by decide) ⟨rfl, ⟨g10, fun _ => s_iR_in ho (by decide) (by decide) ⟨rfl, ⟨g10, fun _ => ⟨fun _ => ⟨rfl, hX0⟩, fun z => absurd g z⟩⟩⟩⟩⟩
      · have hio : i ≠ o := fun z => g (by rw [z])
        by_cases hw : ∃ w, w < 3 ∧ a3 = nI w
        · obtain ⟨w, hw, rfl⟩ := hw
          refine s_oR_in hw (by decide) rfl ⟨fun _ => s_X5_gapsOf hn hm hi ho hv (fun h' hh => ?_), g00⟩
          rw [hF]
          have hlt : gor (gfull (fun k j => now (3 + 6 * k + j)) n mo) (fun p => gv p o + 7 - gv p i) 4096 < 32768 := gor_lt (fun p => by have := gv_lt p o; show gv p o + 7 - gv p i < 15; omega) _
          have lead : ∀ Q : Int32 → Int32 → (Nat → Int32) → (Nat → Int32) → Prop, (∀ m hs ps, (w = 2 → p_X11_bits (nI (gor (gfull (fun k j => now (3 + 6 * k + j)) n mo) (fun p => gv p o + 7 - gv p i) 4096)) (fun r => Q r m hs ps)) ∧ (¬ w = 2 → gor (gfull (fun k j => now (3 + 6 * k + j)) n mo) (fun p => gv p o + 7 - gv p i) 4096 = 0 → Q (-1000004) m hs ps) ∧ (¬ gor (gfull (fun k j => now (3 + 6 * k + j)) n mo) (fun p => gv p o + 7 - gv p i) 4096 = 0 → w = 0 → p_X11_least (nI (gor (gfull (fun k j => now (3 + 6 * k + j)) n mo) (fun p => gv p o + 7 - gv p i) 4096)) (fun r => Q (r - 7) m hs ps)) ∧ (¬ gor (gfull (fun k j => now (3 + 6 * k + j)) n mo) (fun p => gv p o + 7 - gv p i) 4096 = 0 → w = 1 → p_X11_greatest (nI (gor (gfull (fun k j => now (3 + 6 * k + j)) n mo) (fun p => gv p o + 7 - gv p i) 4096)) (fun r => Q (r - 7) m hs ps))) → p_X11_apart many holds now points (nI i) (nI o) (nI w) Q := fun Q hQ => s_X11_apart h0 h1 hn hm hi ho hio hw hQ
          revert hlt lead
          generalize gor (gfull (fun k j => now (3 + 6 * k + j)) n mo) (fun p => gv p o + 7 - gv p i) 4096 = s
          intro hlt lead
          unfold p_X10_apart_85
          refine ⟨fun g => s_bitCount hlt (lead _ (fun m hs ps => ⟨fun _ => s_bits hlt ⟨rfl, hX1 _ _ _ _ hh⟩, fun z => ?_, fun _ z => ?_, fun _ z => ?_⟩)), fun g => ⟨fun gs => lead _ (fun m hs ps => ⟨fun z => ?_, fun _ _ => ⟨rfl, hX1 _ _ _ _ hh⟩, fun z => ?_, fun z => ?_⟩), fun gs => ⟨fun g0 => ?_, fun g0 => ?_⟩⟩⟩
          · rw [gl_2, nI_eq (by omega) (by decide)] at g; exact absurd g z
          · rw [gl_2, nI_eq (by omega) (by decide)] at g; omega
          · rw [gl_2, nI_eq (by omega) (by decide)] at g; omega
          · subst z; exact absurd rfl g
          · rw [gl_0, nI_eq (by omega) (by decide)] at gs; exact absurd gs z
          · rw [gl_0, nI_eq (by omega) (by decide)] at gs; exact absurd gs z
          · rw [gl_0, nI_eq (by omega) (by decide)] at gs g0
            refine s_low hlt gs (fun k hk e1 e2 => lead _ (fun m hs ps => ⟨fun z => by omega, fun _ z => absurd z gs, fun _ _ => s_least hlt (fun k' hk' e1' e2' => ⟨?_, hX1 _ _ _ _ hh⟩) (fun z => absurd z gs), fun _ z => by omega⟩))
            rcases Nat.lt_trichotomy k k' with z | z | z
            · exact (gm_b10 e1 (e2' k z)).elim
            · rw [z]
            · exact (gm_b10 e1' (e2 k' z)).elim
          · rw [gl_0, nI_eq (by omega) (by decide)] at gs g0
            rw [gl_2, nI_eq (by omega) (by decide)] at g
            refine s_high hlt gs (fun k hk e1 e2 => lead _ (fun m hs ps => ⟨fun z => by omega, fun _ z => absurd z gs, fun _ z => by omega, fun _ _ => s_greatest hlt (fun k' hk' e1' e2' => ⟨?_, hX1 _ _ _ _ hh⟩) (fun z => absurd z gs)⟩))
            rcases Nat.lt_trichotomy k k' with z | z | z
            · exact (gm_b10 e1' (e2 k' z)).elim
            · rw [z]
            · exact (gm_b10 e1 (e2' k z hk)).elim
        · refine s_oR_out hw (by decide) (by decide) rfl ⟨g10, fun _ => ?_⟩
          unfold p_X11_apart p_X11_isVariable
          exact s_iR_in hi (by decide) (by decide) ⟨rfl, ⟨g10, fun _ => s_iR_in ho (by decide) (by decide) ⟨rfl, ⟨g10, fun _ => ⟨fun z => absurd z g, fun _ => s_iR_out hw (by decide) (by decide) ⟨fun _ => ⟨rfl, hX0⟩, g00⟩⟩⟩⟩⟩⟩
    · refine s_oR_out ho (by decide) (by decide) rfl ⟨rfl, ⟨g10, fun _ => ?_⟩⟩
      unfold p_X11_apart p_X11_isVariable
      exact s_iR_in hi (by decide) (by decide) ⟨rfl, ⟨g10, fun _ => s_iR_out ho (by decide) (by decide) ⟨rfl, ⟨fun _ => ⟨rfl, hX0⟩, g00⟩⟩⟩⟩
  · refine s_oR_out hi (by decide) (by decide) rfl ⟨rfl, ⟨g10, fun _ => ?_⟩⟩
    unfold p_X11_apart p_X11_isVariable
    exact s_iR_out hi (by decide) (by decide) ⟨rfl, ⟨fun _ => ⟨rfl, hX0⟩, g00⟩⟩
