/-! how many: what is dark is true, what is true is real, grey is between -/
theorem gcnt_add (f : Nat → Bool) (M : Nat) : ∀ K, gcnt f (M + K) = gcnt f M + gcnt (fun i => f (M + i)) K := by
  intro K
  induction K with
  | zero => rfl
  | succ K ih =>
    rw [← Nat.add_assoc]
    by_cases e : f (M + K) = true
    · rw [gcnt_s e, gcnt_s (f := fun i => f (M + i)) e, ih, Nat.add_assoc]
    · rw [gcnt_n e, gcnt_n (f := fun i => f (M + i)) e, ih]
theorem gcnt_8 {f g h : Nat → Bool} : ∀ N, (∀ q, q < N → ∀ d, d < 8 → f (8 * q + d) = (g q && h d)) → gcnt f (8 * N) = gcnt g N * gcnt h 8 := by
  intro N
  induction N with
  | zero => intro _; exact (Nat.zero_mul _).symm
  | succ N ih =>
    intro hf
    rw [Nat.mul_succ, gcnt_add, ih (fun q hq d hd => hf q (by omega) d hd)]
    by_cases e : g N = true
    · have h8 : gcnt (fun i => f (8 * N + i)) 8 = gcnt h 8 := gcnt_cg (f := fun i => f (8 * N + i)) (g := h) (fun d hd => by
        show f (8 * N + d) = true ↔ h d = true
        rw [hf N (by omega) d hd, e, Bool.true_and])
      rw [h8, gcnt_s e, Nat.add_mul, Nat.one_mul]
    · rw [gcnt_n e]
      have : gcnt (fun i => f (8 * N + i)) 8 = 0 := gcnt_z.mpr (fun d hd z => by
        rw [hf N (by omega) d hd, Bool.and_eq_true] at z
        exact e z.1)
      rw [this, Nat.add_zero]
theorem gcnt_dif {f g : Nat → Bool} : ∀ N, (∀ q, q < N → g q = true → f q = true) → gcnt f N = gcnt g N + gcnt (fun q => f q && !g q) N := by
  intro N
  induction N with
  | zero => intro _; rfl
  | succ N ih =>
    intro h
    have e := ih (fun q hq => h q (by omega))
    by_cases hg : g N = true
    · have hf := h N (by omega) hg
      rw [gcnt_s hf, gcnt_s hg, gcnt_n (f := fun q => f q && !g q) (by show ¬ (f N && !g N) = true; rw [hg]; simp), e]
      omega
    · rw [gcnt_n hg]
      by_cases hf : f N = true
      · rw [gcnt_s hf, gcnt_s (f := fun q => f q && !g q) (by show (f N && !g N) = true; rw [hf, Bool.not_eq_true] at *; rw [hg]; rfl), e]
        omega
      · rw [gcnt_n hf, gcnt_n (f := fun q => f q && !g q) (by show ¬ (f N && !g N) = true; rw [Bool.not_eq_true] at hf; rw [hf]; simp), e]
def ghd (mo v i d : Nat) : Bool := if i = v then decide (d = 0) else decide (d ≤ mo)
theorem ghd_cnt {mo v i : Nat} (hmo : mo ≤ 7) : gcnt (ghd mo v i) 8 = if i = v then 1 else mo + 1 := by
  by_cases e : i = v
  · rw [if_pos e, show ghd mo v i = fun d => decide (d = 0) from by funext d; unfold ghd; rw [if_pos e]]
    decide
  · rw [if_neg e, show ghd mo v i = fun d => decide (d ≤ mo) from by funext d; unfold ghd; rw [if_neg e]]
    have : ∀ m, m ≤ 7 → gcnt (fun d => decide (d ≤ m)) 8 = m + 1 := by decide
    exact this mo hmo
theorem gbase_cnt {mo v : Nat} (hmo : mo ≤ 7) (hv : v < 4) : gcnt (gbase mo v) 4096 ≤ (mo + 1) * (mo + 1) * (mo + 1) := by
  have h1 : gcnt (gbase mo v) 4096 ≤ gcnt (fun p => (((ghd mo v 0 (p / 512 % 8) && ghd mo v 1 (p / 64 % 8)) && ghd mo v 2 (p / 8 % 8)) && ghd mo v 3 (p % 8))) 4096 := by
    refine gcnt_sub (fun q hq h => ?_)
    unfold gbase at h
    rw [Bool.and_eq_true, decide_eq_true_eq, gbox_iff] at h
    obtain ⟨h0, hb⟩ := h
    have dig : ∀ i, i < 4 → ghd mo v i (gv q i) = true := fun i hi => by
      unfold ghd
      by_cases e : i = v
      · rw [if_pos e, decide_eq_true_eq, e]; exact h0
      · rw [if_neg e, decide_eq_true_eq]; exact hb i hi
    have d0 := dig 0 (by decide)
    have d1 := dig 1 (by decide)
    have d2 := dig 2 (by decide)
    have d3 := dig 3 (by decide)
    rw [gv0] at d0
    rw [gv1] at d1
    rw [gv2] at d2
    rw [gv3] at d3
    rw [d0, d1, d2, d3]
    rfl
  have h2 : gcnt (fun p => (((ghd mo v 0 (p / 512 % 8) && ghd mo v 1 (p / 64 % 8)) && ghd mo v 2 (p / 8 % 8)) && ghd mo v 3 (p % 8))) (8 * 512) = gcnt (fun p => ((ghd mo v 0 (p / 64 % 8) && ghd mo v 1 (p / 8 % 8)) && ghd mo v 2 (p % 8))) 512 * gcnt (ghd mo v 3) 8 := by
    refine gcnt_8 512 (fun q hq d hd => ?_)
    show ((_ && _) && _ && _) = ((_ && _) && _ && _)
    rw [show (8 * q + d) / 512 % 8 = q / 64 % 8 by omega, show (8 * q + d) / 64 % 8 = q / 8 % 8 by omega, show (8 * q + d) / 8 % 8 = q % 8 by omega, show (8 * q + d) % 8 = d by omega]
  have h3 : gcnt (fun p => ((ghd mo v 0 (p / 64 % 8) && ghd mo v 1 (p / 8 % 8)) && ghd mo v 2 (p % 8))) (8 * 64) = gcnt (fun p => (ghd mo v 0 (p / 8 % 8) && ghd mo v 1 (p % 8))) 64 * gcnt (ghd mo v 2) 8 := by
    refine gcnt_8 64 (fun q hq d hd => ?_)
    show ((_ && _) && _) = ((_ && _) && _)
    rw [show (8 * q + d) / 64 % 8 = q / 8 % 8 by omega, show (8 * q + d) / 8 % 8 = q % 8 by omega, show (8 * q + d) % 8 = d by omega]
  have h4 : gcnt (fun p => (ghd mo v 0 (p / 8 % 8) && ghd mo v 1 (p % 8))) (8 * 8) = gcnt (ghd mo v 0) 8 * gcnt (ghd mo v 1) 8 := by
    refine gcnt_8 8 (fun q hq d hd => ?_)
    show (_ && _) = (_ && _)
    rw [show (8 * q + d) / 8 % 8 = q by omega, show (8 * q + d) % 8 = d by omega]
  have h5 := Nat.le_trans h1 (Nat.le_of_eq h2)
  rw [show (512 : Nat) = 8 * 64 from rfl, h3, show (64 : Nat) = 8 * 8 from rfl, h4, ghd_cnt hmo, ghd_cnt hmo, ghd_cnt hmo, ghd_cnt hmo] at h5
  rcases (show v = 0 ∨ v = 1 ∨ v = 2 ∨ v = 3 by omega) with rfl | rfl | rfl | rfl
  · simp only [if_true, Nat.one_mul] at h5; simpa using h5
  · simp only [if_true, Nat.one_mul, Nat.mul_one] at h5; simpa using h5
  · simp only [if_true, Nat.one_mul, Nat.mul_one] at h5; simpa using h5
  · simp only [if_true, Nat.one_mul, Nat.mul_one] at h5; simpa using h5
/-! the rests of the dark rows -/
def glR (A B : List (Nat → Int32)) : Prop := A.length = B.length ∧ ∀ r, r < A.length → (sr A r 4).toInt ≤ (sr B r 4).toInt
theorem glR_rf (A : List (Nat → Int32)) : glR A A := ⟨rfl, fun _ _ => Int.le_refl _⟩
theorem sr_r {A B : List (Nat → Int32)} {r : Nat} (h : A.length ≤ r) : sr (A ++ B) r = sr B (r - A.length) := by
  unfold sr
  rw [List.getD_eq_getElem?_getD, List.getD_eq_getElem?_getD, List.getElem?_append_right h]
theorem glR_app {A B A' B' : List (Nat → Int32)} (h : glR A B) (h' : glR A' B') : glR (A ++ A') (B ++ B') := by
  obtain ⟨h1, h2⟩ := h
  obtain ⟨h3, h4⟩ := h'
  refine ⟨by rw [List.length_append, List.length_append, h1, h3], fun r hr => ?_⟩
  rw [List.length_append] at hr
  by_cases e : r < A.length
  · rw [sr_l e, sr_l (by omega)]
    exact h2 r e
  · rw [sr_r (by omega), sr_r (by omega), ← h1]
    exact h4 _ (by omega)
theorem glR_one {x y : Nat → Int32} (h : (x 4).toInt ≤ (y 4).toInt) : glR [x] [y] := by
  refine ⟨rfl, fun r hr => ?_⟩
  have : r = 0 := by
    have : [x].length = 1 := rfl
    omega
  subst this
  exact h
theorem ggc_cg {x y : Nat → Int32} : ∀ k, (∀ j, j < k → x j = y j) → ggc x k = ggc y k := by
  intro k
  induction k with
  | zero => intro _; rfl
  | succ k ih =>
    intro h
    show Nat.gcd (ggc x k) _ = Nat.gcd (ggc y k) _
    rw [ih (fun j hj => h j (by omega)), h k (by omega)]
theorem gred_le {x y : Nat → Int32} (hx : ∀ j, j < 5 → gB (x j) 30000) (hy : ∀ j, j < 5 → gB (y j) 30000) (h : ∀ j, j < 4 → x j = y j) (h4 : (x 4).toInt ≤ (y 4).toInt) : (gred x 4).toInt ≤ (gred y 4).toInt := by
  have e := ggc_cg 4 h
  unfold gred
  rw [e]
  by_cases g : ggc y 4 = 0
  · rw [if_pos g, if_pos g]; exact h4
  · rw [if_neg g, if_neg g]
    have hx4 := hx 4 (by decide)
    have hy4 := hy 4 (by decide)
    unfold gB at hx4 hy4
    rw [gfl_toInt (Nat.pos_of_ne_zero g) (by omega), gfl_toInt (Nat.pos_of_ne_zero g) (by omega)]
    exact Int.ediv_le_ediv (by omega) h4
section SR
variable {S : List (Nat → Int32)} {v : Nat}
theorem gshd_le (hv : v < 4) (hS : gsm S) : glR (gshd S v true) (gshd S v false) := by
  have inner : ∀ l, l < S.length → ∀ N, N ≤ S.length → glR (gpi S v true l N) (gpi S v false l N) := by
    intro l hl N
    induction N with
    | zero => intro _; exact glR_rf _
    | succ N ih =>
      intro hN
      refine glR_app (ih (by omega)) ?_
      by_cases e : 0 < sr S l v ∧ sr S N v < 0
      · rw [if_pos e, if_pos e]
        have b1 : ∀ j, j < 5 → gB (sr S l j) 99 := fun j hj => gsm_sr hS hl hj
        have b2 : ∀ j, j < 5 → gB (sr S N j) 99 := fun j hj => gsm_sr hS (by omega) hj
        refine glR_one (gred_le (gpr_B (by omega) b1 b2) (gpr_B (by omega) b1 b2) (fun j hj => ?_) ?_)
        · unfold gpr
          rw [if_neg (by omega), if_neg (by omega)]
        · rw [(gpr_I (by omega) b1 b2).2, (gpr_I (by omega) b1 b2).2]
          have p1 := gm_pos.mp e.1
          have p2 := gm_lt0.mp e.2
          have := Int.mul_nonneg (a := (sr S l v).toInt - 1) (b := -(sr S N v).toInt - 1) (by omega) (by omega)
          unfold gdk1
          rw [if_pos rfl, if_neg (by decide)]
          omega
      · rw [if_neg e, if_neg e]
        exact glR_rf _
  have outer : ∀ L, L ≤ S.length → glR (gpo S v true S.length L) (gpo S v false S.length L) := by
    intro L
    induction L with
    | zero => intro _; exact glR_rf _
    | succ L ih =>
      intro hL
      exact glR_app (ih (by omega)) (inner L (by omega) _ (Nat.le_refl _))
  exact glR_app (glR_rf _) (outer _ (Nat.le_refl _))
end SR
/-! shadowed -/
section KD
variable {n mo : Nat} {C : Nat → Nat → Int32} {cells w : Nat → Int32} {size most : Int32}
/-- all rows of v hold where all constraints do -/
theorem gsrc_full {p v : Nat} (hn : n ≤ 8) (hv : v < 4) (hmo : mo ≤ 7) (hR : gRC n C) (hf : gfull C n mo p = true) : ∀ x ∈ gsrc C n v mo, 0 ≤ isum x p := by
  obtain ⟨hb, hall⟩ := (gfull_H hn).mp hf
  have o1 : (1 : Int32).toInt = 1 := rfl
  have om : (-1 : Int32).toInt = -1 := rfl
  have z0 : (0 : Int32).toInt = 0 := rfl
  have rows : ∀ k, k ≤ n → ∀ x ∈ gsr C k, 0 ≤ isum x p := by
    intro k
    induction k with
    | zero => intro _ x hx; exact absurd hx List.not_mem_nil
    | succ k ih =>
      intro hk x hx
      obtain ⟨r1, r2, kd, hkd4, hkd⟩ := hR k (by omega)
      have hB : ∀ j, j < 5 → gB (C k j) 30000 := fun j hj => by
        unfold gB
        rcases (show j < 4 ∨ j = 4 by omega) with z | z
        · have := r1 j z; omega
        · subst z; omega
      have hh := hall k (by omega)
      unfold gH at hh
      rw [hkd, gh_iff hkd4, gsum_isum hB] at hh
      rcases List.mem_append.mp hx with hx | hx
      · rcases List.mem_append.mp hx with hx | hx
        · exact ih (by omega) x hx
        · unfold gsa at hx
          by_cases e : C k 5 = 0 ∨ C k 5 = 2
          · rw [if_pos e, List.mem_singleton] at hx
            have ex : x = C k := by
              rw [hx]
              funext j
              exact Int32.one_mul _
            rw [ex]
            rw [hkd, gl_0, gl_2, nI_eq (by omega) (by decide), nI_eq (by omega) (by decide)] at e
            unfold ghi at hh
            rcases e with e | e
            · subst e; exact hh
            · subst e
              have : isum (C k) p = 0 := hh
              omega
          · rw [if_neg e] at hx
            exact absurd hx List.not_mem_nil
      · unfold gsb at hx
        by_cases e : C k 5 = 1 ∨ C k 5 = 2
        · rw [if_pos e, List.mem_singleton] at hx
          have ex : isum x p = -isum (C k) p := by
            have ej : ∀ j, j < 5 → (x j).toInt = -(C k j).toInt := fun j hj => by
              rw [hx]
              show (-1 * C k j).toInt = _
              have h1 : gB (-1 : Int32) 1 := by unfold gB; decide
              rw [gI_mul h1 (hB j hj) (by decide), om, Int.neg_one_mul]
            unfold isum
            rw [ej 0 (by decide), ej 1 (by decide), ej 2 (by decide), ej 3 (by decide), ej 4 (by decide)]
            simp only [Int.neg_mul]
            omega
          rw [ex]
          rw [hkd, gl_1, gl_2, nI_eq (by omega) (by decide), nI_eq (by omega) (by decide)] at e
          unfold ghi at hh
          rcases e with e | e
          · subst e
            have : isum (C k) p ≤ 0 := hh
            omega
          · subst e
            have : isum (C k) p = 0 := hh
            omega
        · rw [if_neg e] at hx
          exact absurd hx List.not_mem_nil
  intro x hx
  have hbv := gbox_iff.mp hb v hv
  unfold gsrc at hx
  rcases List.mem_append.mp hx with hx | hx
  · rcases List.mem_append.mp hx with hx | hx
    · exact rows n (Nat.le_refl _) x hx
    · rw [List.mem_singleton.mp hx, isum_bnd hv, o1, z0]
      omega
  · rw [List.mem_singleton.mp hx, isum_bnd hv, om, nI_toInt (by omega)]
    omega
def gps (x : Nat → Int32) (p : Nat) : Nat → Int32
  | 0 => x 4
  | u + 1 => gps x p u + x u * nI (gv p u)
theorem gps_4 (x : Nat → Int32) (p : Nat) : gps x p 4 = gsum x p := gm_ac5 _ _ _ _ _
/-- the rows of a shadow, one by one, at points that are told -/
theorem lx_sha_loop {v : Nat} {ds rs ss : Int32} {dc rc sc : Nat → Int32} {Q : Int32 → Int32 → (Nat → Int32) → Int32 → (Nat → Int32) → Int32 → (Nat → Int32) → Prop} (hT : gTc n mo C cells size most) (hw : gLw n mo C w) (hv : v < 4) (hQ : ∀ y1 y2 y3 y4 y5 y6, Q 1 y1 y2 y3 y4 y5 y6) : p_L_shadowed_164 size most cells ds dc rs rc ss sc w (nI v) (nI (gshd (gsrc C n v mo) v false).length) 1 Q := by
  have hn := hT.1
  have hmo7 := hT.2.2.1
  have hR := hT.2.2.2.2.2.2
  have hS : gsm (gsrc C n v mo) := gsm_src hmo7 hT.B
  have lle := gshd_le hv hS
  have l81 := gshd_len (S := gsrc C n v mo) (v := v) (dark := false) (gsrc_len C v mo hn)
  have BR := gshd_B hv hS false
  unfold p_L_shadowed_164
  refine lx_next hw hmo7 (q := 0) rfl (Nat.zero_le _) (fun r0 _ hr0 hb0 _ => ?_)
  refine gi9_ix (fun i a b d e f g h k l => ∃ r t, i + r = 4096 ∧ d = nI r ∧ a = 1 ∧ t ≤ 4 ∧ b = nI t ∧ (r < 4096 → gbox mo r = true)) ?_ (4096 - r0) ⟨r0, 0, by omega, rfl, rfl, by decide, rfl, hb0⟩
  rintro i X a b d e f g h k l ⟨r, t, hi, rfl, rfl, ht, rfl, hb⟩ hX
  unfold p_L_shadowed_176
  refine ⟨fun _ => ⟨gm_nar1, hQ _ _ _ _ _ _⟩, fun y => ⟨g10, fun _ => ⟨fun _ => ⟨gm_nar1, hQ _ _ _ _ _ _⟩, fun y2 => ?_⟩⟩⟩
  rw [gl_4096, nI_leI (by decide) (by omega)] at y
  rw [gl_4, nI_leI (by decide) (by omega)] at y2
  have hr4 : r < 4096 := by omega
  have next : ∀ (t' : Nat) (y1 y3 y5 : Int32) (y2 y4 y6 : Nat → Int32), t' ≤ 4 → p_L_shadowed_326 y1 y2 y3 y4 y5 y6 w 1 (nI t') (nI r) X := fun t' y1 y3 y5 y2 y4 y6 ht' => by
    unfold p_L_shadowed_326
    exact lx_next hw hmo7 (q := r + 1) (by rw [gl_1, nI_add]) (by omega) (fun r' h1 h2 h3 _ => hX (4096 - r') _ _ _ _ _ _ _ _ _ (by omega) ⟨r', t', by omega, rfl, rfl, ht', rfl, h3⟩)
  have mlt := gmask_lt C n r
  have p2 := gm_p2 n hn
  refine k_hold hT hr4 (lx_all hw hn ⟨fun em => ?_, fun _ => next t _ _ _ _ _ _ ht⟩)
  rw [nI_eq (by omega) (by omega)] at em
  have hf : gfull C n mo r = true := by
    unfold gfull
    rw [Bool.and_eq_true, decide_eq_true_eq]
    exact ⟨hb hr4, em⟩
  have et : nI t + (1 : Int32) = nI (t + 1) := nI_add _ 1
  rw [et]
  have hreal := gshd_real hv hS (gsrc_full hn hv hmo7 hR hf)
  refine gi8_ix (fun i a b d e f g h k => ∃ q, i + q = (gshd (gsrc C n v mo) v false).length ∧ b = nI q ∧ a = 1) ?_ (gshd (gsrc C n v mo) v false).length ⟨0, rfl, rfl, rfl⟩
  rintro j Y a b d e f g h k ⟨q, hj, rfl, rfl⟩ hY
  unfold p_L_shadowed_214
  refine ⟨fun _ => next (t + 1) _ _ _ _ _ _ (by omega), fun y => ⟨g10, fun _ => ?_⟩⟩
  rw [nI_leI (by omega) (by omega)] at y
  have hq : q < (gshd (gsrc C n v mo) v false).length := by omega
  have hqd : q < (gshd (gsrc C n v mo) v true).length := by rw [lle.1]; exact hq
  refine k_row (s := 0) (i := 4) hT hv (by decide) (by decide) hq (fun y1 y2 y3 y4 y5 y6 => ?_)
  refine gi8_ix (fun i a b d e f g h k => ∃ u, i + u = 4 ∧ b = nI u ∧ a = gps (sr (gshd (gsrc C n v mo) v false) q) r u) ?_ 4 ⟨0, rfl, rfl, rfl⟩
  rintro z Z a b d e f g h k ⟨u, hz, rfl, rfl⟩ hZ
  unfold p_L_shadowed_240
  refine ⟨fun y => ?_, fun y => ?_⟩
  · rw [gl_4, nI_leI (by decide) (by omega)] at y
    rw [show u = 4 by omega, gps_4]
    have nn := hreal _ (sr_mem hq)
    have sv := shd_v (C := C) (n := n) (mo := mo) hv hS (sr_mem hq)
    refine ⟨fun y => ?_, fun _ => k_row (s := 0) (i := v) hT hv (by decide) (by omega) hq (fun y1 y2 y3 y4 y5 y6 => ⟨fun _ => ?_, fun y => absurd ?_ y⟩)⟩
    · rw [gm_lt0, gsum_isum (BR _ (sr_mem hq))] at y
      omega
    · refine k_row (s := 1) (i := 4) hT hv (by decide) (by decide) hqd (fun y1 y2 y3 y4 y5 y6 => k_row (s := 0) (i := 4) hT hv (by decide) (by decide) hq (fun y1 y2 y3 y4 y5 y6 => ⟨fun y => ?_, fun _ => ?_⟩))
      · have := lle.2 q hqd
        rw [Int32.lt_iff_toInt_lt] at y
        have y : (sr (gshd (gsrc C n v mo) v false) q 4).toInt < (sr (gshd (gsrc C n v mo) v true) q 4).toInt := y
        omega
      · unfold p_L_shadowed_318
        exact hY (j - 1) _ _ _ _ _ _ _ _ (by omega) ⟨q + 1, by omega, by rw [gl_1, nI_add], rfl⟩
    · exact sv
  · rw [gl_4, nI_leI (by decide) (by omega)] at y
    refine k_row (s := 0) (i := u) hT hv (by decide) (by omega) hq (fun y1 y2 y3 y4 y5 y6 => lx_value hr4 (by omega) ?_)
    exact hZ (z - 1) _ _ _ _ _ _ _ _ (by omega) ⟨u + 1, by omega, by rw [gl_1, nI_add], rfl⟩
theorem lx_shadowed {sL : Nat} {xs : Nat → Int32} {ds rs ss : Int32} {dc rc sc : Nat → Int32} {Q : Int32 → Int32 → (Nat → Int32) → Int32 → (Nat → Int32) → Int32 → (Nat → Int32) → Prop} (hL : sL ≤ 260) (hT : gTc n mo C cells size most) (hw : gLw n mo C w) (hQ : ∀ y1 y2 y3 y4 y5 y6, Q 1 y1 y2 y3 y4 y5 y6) : p_L_shadowed sL xs size most cells ds dc rs rc ss sc w Q := by
  have hn := hT.1
  have hmo7 := hT.2.2.1
  have e3 : (3 : Int32).toBitVec.toNat = 2 ^ 2 - 1 := by decide
  unfold p_L_shadowed
  refine lx_cell (k := 13) hL (by decide) (fun x hx _ => ?_)
  obtain ⟨v, hv, ev⟩ := pk_andE (nI x) 2 e3
  rw [ev]
  have hS : gsm (gsrc C n v mo) := gsm_src hmo7 hT.B
  refine ⟨gx_in 1 rfl (by decide) (by decide), gx_in 1 rfl (by decide) (by decide), gx_in 1 rfl (by decide) (by decide), fun z hz => ?_⟩
  rw [gcl_1, hw.2.1, gl_1, nI_add, pk_mul, pk_mul] at hz
  subst hz
  -- the five numbers
  have DT : ∀ q, q < 4096 → gbase mo v q = true → gin (gshd (gsrc C n v mo) v true) q = true → gtrue (gsrc C n v mo) mo v q = true := fun q hq hb h => by
    unfold gbase at hb
    rw [Bool.and_eq_true, decide_eq_true_eq] at hb
    exact gdark_true hv hmo7 hS hq hb.1 h
  have TR : ∀ q, q < 4096 → gbase mo v q = true → gtrue (gsrc C n v mo) mo v q = true → gin (gshd (gsrc C n v mo) v false) q = true := fun q hq hb h => by
    unfold gbase at hb
    rw [Bool.and_eq_true, decide_eq_true_eq] at hb
    exact gtrue_real hv hmo7 hS hq hb.1 h
  have bAll : gcnt (fun p => gbase mo v p && gin (gshd (gsrc C n v mo) v false) p) 4096 ≤ (mo + 1) * (mo + 1) * (mo + 1) := Nat.le_trans (gcnt_sub (fun q _ h => (Bool.and_eq_true _ _ ▸ h).1)) (gbase_cnt hmo7 hv)
  have c1 : gcnt (fun p => gbase mo v p && gin (gshd (gsrc C n v mo) v true) p) 4096 ≤ gcnt (fun p => gbase mo v p && gtrue (gsrc C n v mo) mo v p) 4096 := gcnt_sub (fun q hq h => by
    rw [Bool.and_eq_true] at h ⊢
    exact ⟨h.1, DT q hq h.1 h.2⟩)
  have c2 : gcnt (fun p => gbase mo v p && gtrue (gsrc C n v mo) mo v p) 4096 ≤ gcnt (fun p => gbase mo v p && gin (gshd (gsrc C n v mo) v false) p) 4096 := gcnt_sub (fun q hq h => by
    rw [Bool.and_eq_true] at h ⊢
    exact ⟨h.1, TR q hq h.1 h.2⟩)
  have c3 : gcnt (fun p => gbase mo v p && gin (gshd (gsrc C n v mo) v false) p) 4096 = gcnt (fun p => gbase mo v p && gin (gshd (gsrc C n v mo) v true) p) 4096 + gcnt (fun p => gbase mo v p && (gin (gshd (gsrc C n v mo) v false) p && !gin (gshd (gsrc C n v mo) v true) p)) 4096 := by
    rw [gcnt_dif (f := fun p => gbase mo v p && gin (gshd (gsrc C n v mo) v false) p) (g := fun p => gbase mo v p && gin (gshd (gsrc C n v mo) v true) p) 4096 (fun q hq h => by
      rw [Bool.and_eq_true] at h ⊢
      exact ⟨h.1, TR q hq h.1 (DT q hq h.1 h.2)⟩)]
    refine congrArg (fun z => gcnt (fun p => gbase mo v p && gin (gshd (gsrc C n v mo) v true) p) 4096 + z) (gcnt_cg (fun q _ => ?_))
    cases gbase mo v q <;> cases gin (gshd (gsrc C n v mo) v false) q <;> cases gin (gshd (gsrc C n v mo) v true) q <;> decide
  have c4 : gcnt (fun p => gbase mo v p && gtrue (gsrc C n v mo) mo v p) 4096 = gcnt (fun p => gbase mo v p && gin (gshd (gsrc C n v mo) v true) p) 4096 + gcnt (fun p => gbase mo v p && ((gin (gshd (gsrc C n v mo) v false) p && !gin (gshd (gsrc C n v mo) v true) p) && gtrue (gsrc C n v mo) mo v p)) 4096 := by
    rw [gcnt_dif (f := fun p => gbase mo v p && gtrue (gsrc C n v mo) mo v p) (g := fun p => gbase mo v p && gin (gshd (gsrc C n v mo) v true) p) 4096 (fun q hq h => by
      rw [Bool.and_eq_true] at h ⊢
      exact ⟨h.1, DT q hq h.1 h.2⟩)]
    refine congrArg (fun z => gcnt (fun p => gbase mo v p && gin (gshd (gsrc C n v mo) v true) p) 4096 + z) (gcnt_cg (fun q hq => ?_))
    have := TR q hq
    revert this
    cases gbase mo v q <;> cases gin (gshd (gsrc C n v mo) v false) q <;> cases gin (gshd (gsrc C n v mo) v true) q <;> cases gtrue (gsrc C n v mo) mo v q <;> simp
  have cl : ∀ f : Nat → Bool, gcnt f 4096 < 2 ^ 30 := fun f => Nat.lt_of_le_of_lt (gcnt_le _ _) (by decide)
  refine k_deep (w := 0) hT hv (by decide) (fun _ _ _ _ _ _ => k_deep (w := 1) hT hv (by decide) (fun _ _ _ _ _ _ => k_deep (w := 2) hT hv (by decide) (fun _ _ _ _ _ _ => k_deep (w := 3) hT hv (by decide) (fun _ _ _ _ _ _ => k_deep (w := 4) hT hv (by decide) (fun y1 y2 y3 y4 y5 y6 => ?_)))))
  show (nI ((mo + 1) * (mo + 1) * (mo + 1)) < nI (gcnt (fun p => gbase mo v p && gin (gshd (gsrc C n v mo) v false) p) 4096) → _) ∧ (¬ (nI ((mo + 1) * (mo + 1) * (mo + 1)) < nI (gcnt (fun p => gbase mo v p && gin (gshd (gsrc C n v mo) v false) p) 4096)) → ((nI (gcnt (fun p => gbase mo v p && gin (gshd (gsrc C n v mo) v true) p) 4096) < 0 → _) ∧ (¬ (nI (gcnt (fun p => gbase mo v p && gin (gshd (gsrc C n v mo) v true) p) 4096) < 0) → ((nI (gcnt (fun p => gbase mo v p && gtrue (gsrc C n v mo) mo v p) 4096) < nI (gcnt (fun p => gbase mo v p && gin (gshd (gsrc C n v mo) v true) p) 4096) → _) ∧ (¬ (nI (gcnt (fun p => gbase mo v p && gtrue (gsrc C n v mo) mo v p) 4096) < nI (gcnt (fun p => gbase mo v p && gin (gshd (gsrc C n v mo) v true) p) 4096)) → ((nI (gcnt (fun p => gbase mo v p && gin (gshd (gsrc C n v mo) v false) p) 4096) < nI (gcnt (fun p => gbase mo v p && gtrue (gsrc C n v mo) mo v p) 4096) → _) ∧ (¬ (nI (gcnt (fun p => gbase mo v p && gin (gshd (gsrc C n v mo) v false) p) 4096) < nI (gcnt (fun p => gbase mo v p && gtrue (gsrc C n v mo) mo v p) 4096)) → ((nI (gcnt (fun p => gbase mo v p && (gin (gshd (gsrc C n v mo) v false) p && !gin (gshd (gsrc C n v mo) v true) p)) 4096) = nI (gcnt (fun p => gbase mo v p && gin (gshd (gsrc C n v mo) v false) p) 4096) - nI (gcnt (fun p => gbase mo v p && gin (gshd (gsrc C n v mo) v true) p) 4096) → ((nI (gcnt (fun p => gbase mo v p && ((gin (gshd (gsrc C n v mo) v false) p && !gin (gshd (gsrc C n v mo) v true) p) && gtrue (gsrc C n v mo) mo v p)) 4096) = nI (gcnt (fun p => gbase mo v p && gtrue (gsrc C n v mo) mo v p) 4096) - nI (gcnt (fun p => gbase mo v p && gin (gshd (gsrc C n v mo) v true) p) 4096) → ((nI (gcnt (fun p => gbase mo v p && ((gin (gshd (gsrc C n v mo) v false) p && !gin (gshd (gsrc C n v mo) v true) p) && gtrue (gsrc C n v mo) mo v p)) 4096) < 0 → _) ∧ (¬ (nI (gcnt (fun p => gbase mo v p && ((gin (gshd (gsrc C n v mo) v false) p && !gin (gshd (gsrc C n v mo) v true) p) && gtrue (gsrc C n v mo) mo v p)) 4096) < 0) → _))) ∧ _)) ∧ _))))))))
  have m1 : mo + 1 ≤ 8 := by omega
  have m512 : (mo + 1) * (mo + 1) * (mo + 1) ≤ 8 * 8 * 8 := Nat.mul_le_mul (Nat.mul_le_mul m1 m1) m1
  refine ⟨fun y => ?_, fun _ => ⟨fun y => absurd y (nI_pos (Nat.lt_trans (cl _) (by decide))), fun _ => ⟨fun y => ?_, fun _ => ⟨fun y => ?_, fun _ => ⟨fun _ => ⟨fun _ => ⟨fun y => absurd y (nI_pos (Nat.lt_trans (cl _) (by decide))), fun _ => ?_⟩, fun y => absurd ?_ y⟩, fun y => absurd ?_ y⟩⟩⟩⟩⟩
  · rw [nI_ltI (by omega) (Nat.lt_trans (cl _) (by decide))] at y; omega
  · rw [nI_ltI (Nat.lt_trans (cl _) (by decide)) (Nat.lt_trans (cl _) (by decide))] at y; omega
  · rw [nI_ltI (Nat.lt_trans (cl _) (by decide)) (Nat.lt_trans (cl _) (by decide))] at y; omega
  · unfold p_L_shadowed_124
    refine k_rowN (s := 0) (i := 0) hT hv (by decide) (by decide) (fun z1 z2 z3 z4 z5 z6 => ⟨g10, fun _ => ⟨fun y => ?_, fun _ => k_rowN (s := 1) (i := 0) hT hv (by decide) (by decide) (fun z1 z2 z3 z4 z5 z6 => ⟨fun _ => lx_sha_loop hT hw hv hQ, fun y => absurd ?_ y⟩)⟩⟩)
    · have len0 : 0 < (gshd (gsrc C n v mo) v false).length := by
        have mem_sr : ∀ x ∈ gsrc C n v mo, ∃ r, r < (gsrc C n v mo).length ∧ sr (gsrc C n v mo) r = x := fun x hx => by
          obtain ⟨r, hr, e⟩ := List.getElem_of_mem hx
          refine ⟨r, hr, ?_⟩
          unfold sr
          rw [List.getD_eq_getElem?_getD, List.getElem?_eq_getElem hr, e]
          rfl
        obtain ⟨l, hl, el⟩ := mem_sr _ (mem_lo (C := C) (n := n) (v := v) (mo := mo))
        obtain ⟨u, hu, eu⟩ := mem_sr _ (mem_up (C := C) (n := n) (v := v) (mo := mo))
        have : gred (gpr (sr (gsrc C n v mo) l) (sr (gsrc C n v mo) u) v false) ∈ gshd (gsrc C n v mo) v false := mem_shd.mpr (Or.inr ⟨l, u, hl, hu, by rw [el, gbnd_v]; decide, by rw [eu, gbnd_v]; decide, rfl⟩)
        exact List.length_pos_of_mem this
      have l81 := gshd_len (S := gsrc C n v mo) (v := v) (dark := false) (gsrc_len C v mo hn)
      have y : nI (gshd (gsrc C n v mo) v false).length ≤ 0 := y
      rw [gl_0, nI_leI (by omega) (by decide)] at y
      omega
    · show nI (gshd (gsrc C n v mo) v true).length = nI (gshd (gsrc C n v mo) v false).length
      rw [(gshd_le hv hS).1]
  · show nI (gcnt (fun p => gbase mo v p && ((gin (gshd (gsrc C n v mo) v false) p && !gin (gshd (gsrc C n v mo) v true) p) && gtrue (gsrc C n v mo) mo v p)) 4096) = nI (gcnt (fun p => gbase mo v p && gtrue (gsrc C n v mo) mo v p) 4096) - nI (gcnt (fun p => gbase mo v p && gin (gshd (gsrc C n v mo) v true) p) 4096)
    rw [pk_sub c1]
    exact congrArg nI (by omega)
  · show nI (gcnt (fun p => gbase mo v p && (gin (gshd (gsrc C n v mo) v false) p && !gin (gshd (gsrc C n v mo) v true) p)) 4096) = nI (gcnt (fun p => gbase mo v p && gin (gshd (gsrc C n v mo) v false) p) 4096) - nI (gcnt (fun p => gbase mo v p && gin (gshd (gsrc C n v mo) v true) p) 4096)
    rw [pk_sub (Nat.le_trans c1 c2)]
    exact congrArg nI (by omega)
end KD
