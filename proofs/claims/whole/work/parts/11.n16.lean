/-! film -/
/-- what the j-th item of a film is -/
def gFit (f : Nat → Bool) (lane : Int32) (it : Int64) (j : Nat) : Prop := (∀ q, q < 4096 → f q = true → gcnt f q = j → it = gcut lane (nI q).toInt64) ∧ (gcnt f 4096 ≤ j → it = -1)
theorem gFit_eq {f : Nat → Bool} {lane : Int32} {a b : Int64} {j : Nat} (ha : gFit f lane a j) (hb : gFit f lane b j) : a = b := by
  rcases Nat.lt_or_ge j (gcnt f 4096) with h | h
  · obtain ⟨q, q1, q2, q3⟩ := gcnt_sur f 4096 j h
    rw [ha.1 q q1 q2 q3, hb.1 q q1 q2 q3]
  · rw [ha.2 h, hb.2 h]
theorem gFit_at {f : Nat → Bool} {lane : Int32} {q j : Nat} (hq : q < 4096) (hf : f q = true) (hj : gcnt f q = j) : gFit f lane (gcut lane (nI q).toInt64) j := by
  constructor
  · intro q' h1 h2 h3
    rcases Nat.lt_trichotomy q q' with z | z | z
    · have := gcnt_lt f z hf; omega
    · rw [z]
    · have := gcnt_lt f z h2; omega
  · intro h
    have := gcnt_lt f hq hf
    omega
theorem gFit_no {f : Nat → Bool} {lane : Int32} {j : Nat} (h : gcnt f 4096 ≤ j) : gFit f lane (-1) j := by
  refine ⟨fun q h1 h2 h3 => ?_, fun _ => rfl⟩
  have := gcnt_lt f h1 h2
  omega
/-- a film point: the k-th point, or none -/
def gPt (f : Nat → Bool) (x : Int32) (k : Nat) : Prop := (∃ q, q < 4096 ∧ x = nI q ∧ f q = true ∧ gcnt f q = k) ∨ (x = -1 ∧ gcnt f 4096 ≤ k)
theorem gcnt_none {f : Nat → Bool} {a b : Nat} (h : a ≤ b) (hn : ∀ q, a ≤ q → q < b → ¬ f q = true) : gcnt f b = gcnt f a := by
  induction b with
  | zero => rw [Nat.le_zero.mp h]
  | succ b ih =>
    by_cases e : a = b + 1
    · rw [e]
    · rw [gcnt_n (hn b (by omega) (by omega))]
      exact ih (by omega) (fun q h1 h2 => hn q h1 (by omega))
theorem gPt_item {f : Nat → Bool} {lane x : Int32} {k : Nat} (h : gPt f x k) : gFit f lane (gcut lane x.toInt64) k := by
  rcases h with ⟨q, h1, rfl, h2, h3⟩ | ⟨rfl, h⟩
  · exact gFit_at h1 h2 h3
  · have : gcut lane (-1 : Int32).toInt64 = -1 := gcut_m1 lane
    rw [this]
    exact gFit_no h
theorem s_X10_film_63 {n mo s i N : Nat} {changes seen x0 : Int32} {cells h : Nat → Int32} {items : Nat → Int64} {lanes : Nat → Int32} {Q : Int32 → Int32 → (Nat → Int32) → (Nat → Int64) → Prop} (hn : n ≤ 8) (hm : mo ≤ 7) (hs : s < 4) (hi : i + N ≤ 24) (hv : gVh (fun k j => cells (6 * k + j)) n mo h) (hx : gPt (gfull (fun k j => cells (6 * k + j)) n mo) x0 0)
    (hQ : ∀ h' it, gVh (fun k j => cells (6 * k + j)) n mo h' → (∀ j, j < N → gFit (gfull (fun k j => cells (6 * k + j)) n mo) (lanes s) (it (24 * s + i + j)) j) → (∀ q, (q < 24 * s + i ∨ 24 * s + i + N ≤ q) → it q = items q) → Q (nI N) changes h' it) (hse : seen = changes) : ∃ k, gi5 (p_X10_film_63 (nI n) (nI mo) changes cells lanes (nI N) (nI s) (nI i) Q) k x0 (0 : Int32) seen h items := by
  refine gi5_inv N (fun k a b c d e => b = nI k ∧ c = changes ∧ gPt (gfull (fun k j => cells (6 * k + j)) n mo) a k ∧ gVh (fun k j => cells (6 * k + j)) n mo d ∧ (∀ j, j < k → gFit (gfull (fun k j => cells (6 * k + j)) n mo) (lanes s) (e (24 * s + i + j)) j) ∧ ∀ q, (q < 24 * s + i ∨ 24 * s + i + k ≤ q) → e q = items q) ?_ ?_ ⟨rfl, hse, hx, hv, fun j hj => absurd hj (Nat.not_lt_zero j), fun _ _ => rfl⟩
  · rintro k hk X a b c d e ⟨rfl, rfl, ha, hd, e1, e2⟩ hX
    unfold p_X10_film_63 p_X10_film_112
    have en : nI k + (1 : Int32) = nI (k + 1) := nI_add k 1
    rw [en]
    have put : ∀ Q2 : (Nat → Int64) → Prop, Q2 (vp_updL e (24 * s + (i + k)) (gcut (lanes s) a.toInt64)) → p_X7_put e lanes (nI s) (nI i + nI k) a.toInt64 Q2 := by
      intro Q2 h2
      rw [nI_add]
      exact s_X7_put hs (by omega) h2
    have f1 : ∀ j, j < k + 1 → gFit (gfull (fun k j => cells (6 * k + j)) n mo) (lanes s) (vp_updL e (24 * s + (i + k)) (gcut (lanes s) a.toInt64) (24 * s + i + j)) j := by
      intro j hj
      by_cases ej : j = k
      · subst ej
        rw [Nat.add_assoc, pk_uLs]
        exact gPt_item ha
      · rw [pk_uLn (by omega)]
        exact e1 j (by omega)
    have f2 : ∀ q, (q < 24 * s + i ∨ 24 * s + i + (k + 1) ≤ q) → vp_updL e (24 * s + (i + k)) (gcut (lanes s) a.toInt64) q = items q := by
      intro q hq
      rw [pk_uLn (by omega)]
      exact e2 q (by omega)
    refine ⟨fun g => ?_, fun _ => put _ ⟨fun g => ?_, fun g => ?_⟩⟩
    · rw [nI_leI (by omega) (by omega)] at g; omega
    · rcases ha with ⟨p, p1, rfl, p2, p3⟩ | ⟨rfl, -⟩
      · have ep : nI p + (1 : Int32) = nI (p + 1) := nI_add p 1
        rw [ep]
        have pc := gcnt_s (f := gfull (fun k j => cells (6 * k + j)) n mo) p2
        refine s_X5_pointFrom hn hm (by omega) (fun _ => hd) (fun h' r hh r1 r2 r3 r4 => hX _ _ _ _ _ ⟨rfl, rfl, Or.inl ⟨r, r2, rfl, r3, ?_⟩, hh, f1, f2⟩) (fun h' hh r4 => hX _ _ _ _ _ ⟨rfl, rfl, Or.inr ⟨rfl, ?_⟩, hh, f1, f2⟩)
        · rw [gcnt_none r1 r4, pc, p3]
        · rw [gcnt_none (show p + 1 ≤ 4096 by omega) r4, pc, p3]
          exact Nat.le_refl _
      · exact absurd g (by decide)
    · rcases ha with ⟨p, p1, rfl, p2, p3⟩ | ⟨rfl, pn⟩
      · exact absurd (nI_pos' (by omega)) g
      · exact hX _ _ _ _ _ ⟨rfl, rfl, Or.inr ⟨rfl, by omega⟩, hd, f1, f2⟩
  · rintro X a b c d e ⟨rfl, rfl, ha, hd, e1, e2⟩
    unfold p_X10_film_63
    exact ⟨fun _ => hQ d e hd e1 e2, fun g => absurd (by rw [nI_leI (by omega) (by omega)]; exact Nat.le_refl _) g⟩
theorem s_X11_film_128 {s i N k : Nat} {many : Int32} {holds points : Nat → Int32} {items : Nat → Int64} {f : Nat → Bool} {lane : Int32} {Q : Int32 → Int32 → (Nat → Int32) → (Nat → Int64) → (Nat → Int32) → Prop} (hs : s < 4) (hi : i + N ≤ 24) (hk : k ≤ N) (hf : k < N → gcnt f 4096 ≤ k) (h1 : ∀ j, j < k → gFit f lane (items (24 * s + i + j)) j)
    (hQ : ∀ it, (∀ j, j < N → gFit f lane (it (24 * s + i + j)) j) → (∀ q, (q < 24 * s + i ∨ 24 * s + i + N ≤ q) → it q = items q) → Q (nI N) many holds it points) : p_X11_film_128 many holds items points (nI N) (nI s) (nI i) (nI k) Q := by
  unfold p_X11_film_128
  refine gi2_inv (N - k) (fun d a e => a = nI (k + d) ∧ (∀ j, j < k + d → gFit f lane (e (24 * s + i + j)) j) ∧ ∀ q, (q < 24 * s + i ∨ 24 * s + i + N ≤ q) → e q = items q) ?_ ?_ ⟨rfl, h1, fun _ _ => rfl⟩
  · rintro d hd X a e ⟨rfl, e1, e2⟩ hX
    have ex : (24 : Int32) * nI s + nI i + nI (k + d) = nI (24 * s + i + (k + d)) := by rw [gx_24m, nI_add]
    have en : nI (k + d) + (1 : Int32) = nI (k + (d + 1)) := nI_add (k + d) 1
    unfold p_X11_film_132
    refine ⟨fun g => ?_, fun _ => ⟨gx_in _ ex (by omega) (by decide), ?_⟩⟩
    · rw [nI_leI (by omega) (by omega)] at g; omega
    · rw [gx_cl _ ex (by omega), en]
      refine hX _ _ ⟨rfl, fun j hj => ?_, fun q hq => ?_⟩
      · by_cases ej : j = k + d
        · subst ej
          rw [pk_uLs]
          exact gFit_no (by have := hf (by omega); omega)
        · rw [pk_uLn (by omega)]
          exact e1 j (by omega)
      · rw [pk_uLn (by omega)]
        exact e2 q hq
  · rintro X a e ⟨rfl, e1, e2⟩
    have : k + (N - k) = N := by omega
    rw [this] at e1 ⊢
    unfold p_X11_film_132
    exact ⟨fun _ => hQ e e1 e2, fun g => absurd (by rw [nI_leI (by omega) (by omega)]; exact Nat.le_refl _) g⟩
theorem s_X11_film_63 {n mo s i N : Nat} {lane : Int32} {now hs ps : Nat → Int32} {items : Nat → Int64} {Q : Int32 → Int32 → (Nat → Int32) → (Nat → Int64) → (Nat → Int32) → Prop} (hn : n ≤ 8) (hm : mo ≤ 7) (h0 : now 0 = nI n) (hsl : s < 4) (hi : i + N ≤ 24) (hL : gLy (fun k j => now (3 + 6 * k + j)) n mo hs ps)
    (hQ : ∀ it, (∀ j, j < N → gFit (gfull (fun k j => now (3 + 6 * k + j)) n mo) lane (it (24 * s + i + j)) j) → (∀ q, (q < 24 * s + i ∨ 24 * s + i + N ≤ q) → it q = items q) → Q (nI N) (nI (gcnt (gbox mo) 4096)) hs it ps) : ∃ k, gi3 (p_X11_film_63 (nI (gcnt (gbox mo) 4096)) hs now ps (nI N) (nI s) lane (nI i) Q) k (0 : Int32) (0 : Int32) items := by
  have hle := gcnt_le (gbox mo) 4096
  obtain ⟨G, hG⟩ := gwalk (gbox mo) (fun q => gcnt (gfull (fun k j => now (3 + 6 * k + j)) n mo) q) (fun q hq => by rw [gcnt_n (fun z => hq (gfull_box z))]) 4096
  have G0 := hG 0 (by decide)
  have G1 := hG 4096 (by decide)
  have out : ∀ (c : Nat) (e : Nat → Int64), c ≤ N → (c < N → gcnt (gfull (fun k j => now (3 + 6 * k + j)) n mo) 4096 ≤ c) → (∀ j, j < c → gFit (gfull (fun k j => now (3 + 6 * k + j)) n mo) lane (e (24 * s + i + j)) j) → (∀ q, (q < 24 * s + i ∨ 24 * s + i + N ≤ q) → e q = items q) → p_X11_film_128 (nI (gcnt (gbox mo) 4096)) hs e ps (nI N) (nI s) (nI i) (nI c) Q := by
    intro c e c1 c2 c3 c4
    refine s_X11_film_128 (f := gfull (fun k j => now (3 + 6 * k + j)) n mo) (lane := lane) hsl hi c1 c2 c3 (fun it i1 i2 => hQ it i1 (fun q hq => ?_))
    rw [i2 q hq, c4 q hq]
  refine gi3_inv (gcnt (gbox mo) 4096) (fun k a b e => b = nI k ∧ a = nI (G k) ∧ G k ≤ N ∧ (∀ j, j < G k → gFit (gfull (fun k j => now (3 + 6 * k + j)) n mo) lane (e (24 * s + i + j)) j) ∧ ∀ q, (q < 24 * s + i ∨ 24 * s + i + N ≤ q) → e q = items q) ?_ ?_ ⟨rfl, ?_, ?_, ?_, fun _ _ => rfl⟩
  · rintro k hk X a b e ⟨rfl, rfl, k1, e1, e2⟩ hX
    obtain ⟨q, hq, hb, hc⟩ := gcnt_sur (gbox mo) 4096 k hk
    obtain ⟨l1, l2⟩ := hL q hq hb
    have g1 := hG q (by omega)
    have g2 := hG (q + 1) (by omega)
    rw [gcnt_s hb] at g2
    rw [hc] at l1 l2 g1 g2
    have en : nI k + (1 : Int32) = nI (k + 1) := nI_add k 1
    unfold p_X11_film_63 p_X11_film_122
    rw [en]
    refine ⟨fun g => ?_, fun _ => ⟨fun g => ?_, fun g => ⟨vp_in_nI (by omega) (by decide), s_X11_all h0 hn ?_⟩⟩⟩
    · rw [nI_leI (by omega) (by omega)] at g; omega
    · rw [nI_leI (by omega) (by omega)] at g
      exact out _ e k1 (fun z => by omega) e1 e2
    · rw [nI_leI (by omega) (by omega)] at g
      rw [nI_clamp (by omega), l1, l2, gfull_eq hn hb]
      have ex : (24 : Int32) * nI s + nI i + nI (G k) = nI (24 * s + i + G k) := by rw [gx_24m, nI_add]
      refine ⟨fun gf => ⟨vp_in_nI (by omega) (by decide), s_cut ⟨gx_in _ ex (by omega) (by decide), ?_⟩⟩, fun gf => ?_⟩
      · have g3 : G (k + 1) = G k + 1 := by rw [g2, gcnt_s gf, g1]
        rw [gx_cl _ ex (by omega)]
        refine hX _ _ _ ⟨rfl, by rw [g3]; exact nI_add _ 1, by omega, fun j hj => ?_, fun q' hq' => ?_⟩
        · by_cases ej : j = G k
          · subst ej
            rw [pk_uLs]
            exact gFit_at hq gf g1.symm
          · rw [pk_uLn (by omega)]
            exact e1 j (by omega)
        · rw [pk_uLn (by omega)]
          exact e2 q' hq'
      · have g3 : G (k + 1) = G k := by rw [g2, gcnt_n gf, g1]
        exact hX _ _ _ ⟨rfl, by rw [g3], by omega, fun j hj => e1 j (by omega), e2⟩
  · rintro X a b e ⟨rfl, rfl, k1, e1, e2⟩
    unfold p_X11_film_63
    refine ⟨fun _ => out _ e k1 (fun _ => ?_) e1 e2, fun g => absurd (by rw [nI_leI (by omega) (by omega)]; exact Nat.le_refl _) g⟩
    rw [G1]
    exact Nat.le_refl _
  · show (0 : Int32) = nI (G 0)
    have : G 0 = 0 := G0
    rw [this]
    rfl
  · have : G 0 = 0 := G0
    omega
  · intro j hj
    have : G 0 = 0 := G0
    omega
theorem o_film {n mo : Nat} {cells now h holds points : Nat → Int32} {size most draw changes seen many : Int32} {items items' : Nat → Int64} {lanes sizes lanes' sizes' : Nat → Int32} {a1 a2 a3 a4 : Int32} {X : Int32 → (Nat → Int32) → (Nat → Int64) → Int32 → (Nat → Int32) → (Nat → Int64) → (Nat → Int32) → Prop} (hS : gSnap n mo cells size most draw now) (hT : gSheets items lanes sizes items' lanes' sizes') (hv : seen = changes → gVh (fun k j => cells (6 * k + j)) n mo h) (hX0 : X seen h items many holds items' points)
    (hX1 : ∀ h' it it' m hs ps, gVh (fun k j => cells (6 * k + j)) n mo h' → gSheets it lanes sizes it' lanes' sizes' → X changes h' it m hs it' ps) : p_X10_film size most changes cells seen h items lanes sizes a1 a2 a3 a4 (fun r1 y2 y3 y4 => p_X11_film many holds items' lanes' now points sizes' a1 a2 a3 a4 (fun r5 y6 y7 y8 y9 => r1 = r5 ∧ X y2 y3 y4 y6 y7 y8 y9)) := by
  have hF := gfull_fn hS
  obtain ⟨hn, -, hm, rfl, rfl, h0, h1, -, -, hc, -⟩ := id hS
  unfold p_X10_film
  by_cases hN : ∃ N, 1 ≤ N ∧ N ≤ 24 ∧ a1 = nI N
  · have hN' := (gm_rng (by decide) (by decide)).mp hN
    obtain ⟨N, N1, N2, rfl⟩ := hN
    refine s_out_in hN' ⟨fun _ => ?_, g00⟩
    by_cases h2 : (∃ s, s < 4 ∧ a2 = nI s) ∧ ∃ l, l < 4 ∧ a3 = nI l
    · obtain ⟨⟨s, hs, rfl⟩, l, hl, rfl⟩ := h2
      obtain ⟨t1, t2, t3, z, t4, t5, t6⟩ := hT s hs
      have t5' : sizes' s = nI z := by rw [← t2]; exact t5
      have t3' : lanes' s = -1 ∨ ∃ l, l < 4 ∧ lanes' s = nI l := by rw [← t1]; exact t3
      refine s_noSL_in hs hl ⟨fun _ => s_X7_refusal hs t4 t5 (by omega) ?_, g00⟩
      have enter : ∀ Q : Int32 → Int32 → (Nat → Int32) → (Nat → Int64) → (Nat → Int32) → Prop, p_X11_why lanes' sizes' (nI s) (nI l) a4 (nI N) (fun r4 => (0 ≤ r4 → (p_X11_lays many holds now points (fun y5 y6 y7 => ∃ n, gi3 (p_X11_film_63 y5 y6 now y7 (nI N) (nI s) (nI l) a4 Q) n (0 : Int32) (0 : Int32) items'))) ∧ (¬ (0 ≤ r4) → (Q r4 many holds items' points))) → p_X11_film many holds items' lanes' now points sizes' (nI N) (nI s) (nI l) a4 Q := by
        intro Q hh
        unfold p_X11_film
        exact s_in_in (by rw [gm_l]; exact hN') ⟨g10, fun _ => s_sh_in hs ⟨g10, fun _ => s_iR_in hl (by decide) (by decide) ⟨g10, fun _ => hh⟩⟩⟩
      rcases gref_cases (ls := lanes s) (lane := nI l) (z := z) (i := a4) (n := N) with ⟨e, k1, k2, k3, k4⟩ | ⟨e, k1⟩
      · refine ⟨fun _ => ?_, fun g => absurd e g⟩
        obtain ⟨i, hi, rfl⟩ : ∃ i, i < 24 ∧ a4 = nI i := (gm_ix (by decide)).mpr (by omega)
        rw [nI_toInt (by omega)] at k4
        have main : ∀ (h' : Nat → Int32) (x : Int32), gVh (fun k j => cells (6 * k + j)) n mo h' → gPt (gfull (fun k j => cells (6 * k + j)) n mo) x 0 → ∃ k, gi5 (p_X10_film_63 (nI n) (nI mo) changes cells lanes (nI N) (nI s) (nI i) (fun r1 y2 y3 y4 => p_X11_film many holds items' lanes' now points sizes' (nI N) (nI s) (nI l) (nI i) (fun r5 y6 y7 y8 y9 => r1 = r5 ∧ X y2 y3 y4 y6 y7 y8 y9))) k x (0 : Int32) changes h' items := by
          intro h' x hh hx
          refine s_X10_film_63 hn hm hs (by omega) hh hx (fun h2 it h3 i1 i2 => ?_) rfl
          refine enter _ (s_X11_why hs t4 t5' t3' (by omega) ⟨fun _ => s_X11_lays h0 h1 hn hm (fun hs2 ps2 hL => s_X11_film_63 (lane := nI l) hn hm h0 hs (by omega) hL (fun it' j1 j2 => ⟨rfl, hX1 _ _ _ _ _ _ h3 ?_⟩)), fun g => ?_⟩)
          · intro t ht
            obtain ⟨u1, u2, u3, w, u4, u5, u6⟩ := hT t ht
            refine ⟨u1, u2, u3, w, u4, u5, fun hl2 j hj => ?_⟩
            by_cases ein : t = s ∧ i ≤ j ∧ j < i + N
            · obtain ⟨rfl, e1, e2⟩ := ein
              have ej : 24 * t + j = 24 * t + i + (j - i) := by omega
              rw [ej]
              have f1 := i1 (j - i) (by omega)
              rw [hF, k2] at f1
              exact gFit_eq f1 (j1 (j - i) (by omega))
            · rw [i2 _ (by omega), j2 _ (by omega)]
              exact u6 hl2 j hj
          · rw [← t1, e] at g; exact absurd (by decide) g
        refine s_X5_pointFrom (least := 0) hn hm (by decide) hv (fun h' p hh _ hp hf hl => main h' _ hh (Or.inl ⟨p, hp, rfl, hf, ?_⟩)) (fun h' hh hl => main h' _ hh (Or.inr ⟨rfl, ?_⟩))
        · rw [gcnt_none (Nat.zero_le _) hl]; rfl
        · rw [gcnt_none (Nat.zero_le _) hl]; exact Nat.le_refl _
      · refine ⟨fun g => absurd g e, fun _ => enter _ (s_X11_why hs t4 t5' t3' (by omega) ⟨fun g => ?_, fun _ => ?_⟩)⟩
        · rw [← t1] at g; exact absurd g k1
        · rw [← t1]; exact ⟨rfl, hX0⟩
    · refine s_noSL_out h2 ⟨g10, fun _ => ?_⟩
      unfold p_X11_film
      refine s_in_in (by rw [gm_l]; exact hN') ⟨g10, fun _ => ?_⟩
      by_cases h1 : ∃ s, s < 4 ∧ a2 = nI s
      · have h3 : ¬ ∃ l, l < 4 ∧ a3 = nI l := fun z => h2 ⟨h1, z⟩
        obtain ⟨s, hs, rfl⟩ := h1
        exact s_sh_in hs ⟨g10, fun _ => s_iR_out h3 (by decide) (by decide) ⟨fun _ => ⟨rfl, hX0⟩, g00⟩⟩
      · exact s_sh_out h1 ⟨fun _ => ⟨rfl, hX0⟩, g00⟩
  · have hN' := fun z => hN ((gm_rng (by decide) (by decide)).mpr z)
    refine s_out_out hN' ⟨g10, fun _ => ?_⟩
    unfold p_X11_film
    exact s_in_out (by rw [gm_l]; exact hN') ⟨fun _ => ⟨rfl, hX0⟩, g00⟩
