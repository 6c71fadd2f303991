/-! film -/
/-- what the j-th item of a film is -/
def gFit (f : Nat → Bool) (lane : Int32) (it : Int64) (j : Nat) : Prop := (∀ q, q < 4096 → f q = true → gcnt f q = j → it = gcut lane (nI q).toInt64) ∧ (gcnt f 4096 ≤ j → it = -1)
theorem gFit_eq {f : Nat → Bool} {lane : Int32} {a b : Int64} {j : Nat} (ha : gFit f lane a j) (hb : gFit f lane b j) : a = b := by
  rcases Nat.lt_or_ge j (gcnt f 4096) with h | h
  · obtain ⟨q, q1, q2, q3⟩ := gcnt_sur f 4096 j h
    rw [ha.1 q q1 q2 q3, hb.1 q q1 q2 q3]
  · rw [ha.2 h, hb.2 h]
theorem gFit_at {f : Nat → Bool} {lane : Int32} {q j : Nat} (hq : q < 4096) (hf : f q = true) (hj : gcnt f q = j) : gFit f lane (gcut lane (nI q).toInt64) j := by
  constructor
  · intro q' h1 h2 h3
    rcases Nat.lt_trichotomy q q' with z | z | z
    · have := gcnt_lt f z hf; omega
    · rw [z]
    · have := gcnt_lt f z h2; omega
  · intro h
    have := gcnt_lt f hq hf
    omega
theorem gFit_no {f : Nat → Bool} {lane : Int32} {j : Nat} (h : gcnt f 4096 ≤ j) : gFit f lane (-1) j := by
  refine ⟨fun q h1 h2 h3 => ?_, fun _ => rfl⟩
  have := gcnt_lt f h1 h2
  omega
/-- a film point: the k-th point, or none -/
def gPt (f : Nat → Bool) (x : Int32) (k : Nat) : Prop := (∃ q, q < 4096 ∧ x = nI q ∧ f q = true ∧ gcnt f q = k) ∨ (x = -1 ∧ gcnt f 4096 ≤ k)
theorem gcnt_none {f : Nat → Bool} {a b : Nat} (h : a ≤ b) (hn : ∀ q, a ≤ q → q < b → ¬ f q = true) : gcnt f b = gcnt f a := by
  induction b with
  | zero => rw [Nat.le_zero.mp h]
  | succ b ih =>
    by_cases e : a = b + 1
    · rw [e]
    · rw [gcnt_n (hn b (by omega) (by omega))]
      exact ih (by omega) (fun q h1 h2 => hn q h1 (by omega))
theorem gPt_item {f : Nat → Bool} {lane x : Int32} {k : Nat} (h : gPt f x k) : gFit f lane (gcut lane x.toInt64) k := by
  rcases h with ⟨q, h1, rfl, h2, h3⟩ | ⟨rfl, h⟩
  · exact gFit_at h1 h2 h3
  · have : gcut lane (-1 : Int32).toInt64 = -1 := gcut_m1 lane
    rw [this]
    exact gFit_no h
theorem s_X10_film_63 {n mo s i N : Nat} {changes seen x0 : Int32} {cells h : Nat → Int32} {items : Nat → Int64} {lanes : Nat → Int32} {Q : Int32 → Int32 → (Nat → Int32) → (Nat → Int64) → Prop} (hn : n ≤ 8) (hm : mo ≤ 7) (hs : s < 4) (hi : i + N ≤ 24) (hv : gVh (fun k j => cells (6 * k + j)) n mo h) (hx : gPt (gfull (fun k j => cells (6 * k + j)) n mo) x0 0)
    (hQ : ∀ h' it, gVh (fun k j => cells (6 * k + j)) n mo h' → (∀ j, j < N → gFit (gfull (fun k j => cells (6 * k + j)) n mo) (lanes s) (it (24 * s + i + j)) j) → (∀ q, (q < 24 * s + i ∨ 24 * s + i + N ≤ q) → it q = items q) → Q (nI N) changes h' it) (hse : seen = changes) : ∃ k, gi5 (p_X10_film_63 (nI n) (nI mo) changes cells lanes (nI N) (nI s) (nI i) Q) k x0 (0 : Int32) seen h items := by
  refine gi5_inv N (fun k a b c d e => b = nI k ∧ c = changes ∧ gPt (gfull (fun k j => cells (6 * k + j)) n mo) a k ∧ gVh (fun k j => cells (6 * k + j)) n mo d ∧ (∀ j, j < k → gFit (gfull (fun k j => cells (6 * k + j)) n mo) (lanes s) (e (24 * s + i + j)) j) ∧ ∀ q, (q < 24 * s + i ∨ 24 * s + i + k ≤ q) → e q = items q) ?_ ?_ ⟨rfl, hse, hx, hv, fun j hj => absurd hj (Nat.not_lt_zero j), fun _ _ => rfl⟩
  · rintro k hk X a b c d e ⟨rfl, rfl, ha, hd, e1, e2⟩ hX
    unfold p_X10_film_63 p_X10_film_112
    have en : nI k + (1 : Int32) = nI (k + 1) := nI_add k 1
    rw [en]
    have put : ∀ Q2 : (Nat → Int64) → Prop, Q2 (vp_updL e (24 * s + (i + k)) (gcut (lanes s) a.toInt64)) → p_X7_put e lanes (nI s) (nI i + nI k) a.toInt64 Q2 := by
      intro Q2 h2
      rw [nI_add]
      exact s_X7_put hs (by omega) h2
    have f1 : ∀ j, j < k + 1 → gFit (gfull (fun k j => cells (6 * k + j)) n mo) (lanes s) (vp_updL e (24 * s + (i + k)) (gcut (lanes s) a.toInt64) (24 * s + i + j)) j := by
      intro j hj
      by_cases ej : j = k
      · subst ej
        rw [Nat.add_assoc, pk_uLs]
        exact gPt_item ha
      · rw [pk_uLn (by omega)]
        exact e1 j (by omega)
    have f2 : ∀ q, (q < 24 * s + i ∨ 24 * s + i + (k + 1) ≤ q) → vp_updL e (24 * s + (i + k)) (gcut (lanes s) a.toInt64) q = items q := by
      intro q hq
      rw [pk_uLn (by omega)]
      exact e2 q (by omega)
    refine ⟨fun g => ?_, fun _ => put _ ⟨fun g => ?_, fun g => ?_⟩⟩
    · rw [nI_leI (by omega) (by omega)] at g; omega
    · rcases ha with ⟨p, p1, rfl, p2, p3⟩ | ⟨rfl, -⟩
      · have ep : nI p + (1 : Int32) = nI (p + 1) := nI_add p 1
        rw [ep]
        have pc := gcnt_s (f := gfull (fun k j => cells (6 * k + j)) n mo) p2
        refine s_X5_pointFrom hn hm (by omega) (fun _ => hd) (fun h' r hh r1 r2 r3 r4 => hX _ _ _ _ _ ⟨rfl, rfl, Or.inl ⟨r, r2, rfl, r3, ?_⟩, hh, f1, f2⟩) (fun h' hh r4 => hX _ _ _ _ _ ⟨rfl, rfl, Or.inr ⟨rfl, ?_⟩, hh, f1, f2⟩)
        · rw [gcnt_none r1 r4, pc, p3]
        · rw [gcnt_none (show p + 1 ≤ 4096 by omega) r4, pc, p3]
          exact Nat.le_refl _
      · exact absurd g (by decide)
    · rcases ha with ⟨p, p1, rfl, p2, p3⟩ | ⟨rfl, pn⟩
      · exact absurd (nI_pos' (by omega)) g
      · exact hX _ _ _ _ _ ⟨rfl, rfl, Or.inr ⟨rfl, by omega⟩, hd, f1, f2⟩
  · rintro X a b c d e ⟨rfl, rfl, ha, hd, e1, e2⟩
    unfold p_X10_film_63
    exact ⟨fun _ => hQ d e hd e1 e2, fun g => absurd (by rw [nI_leI (by omega) (by omega)]; exact Nat.le_refl _) g⟩
