/-! seen: points filmed are seen by each kind; odds; turned twice -/
theorem gfm_bit (F : Nat → Bool) (i : Nat) : ∀ n, i < n → (gfm F n / 2 ^ i % 2 = 1 ↔ F i = true) := by
  intro n
  induction n with
  | zero => intro z; exact absurd z (Nat.not_lt_zero i)
  | succ n ih =>
    intro z
    have hl := gfm_lt F n
    show (gfm F n + _) / 2 ^ i % 2 = 1 ↔ _
    by_cases e : i = n
    · subst e
      by_cases g : F i = true
      · rw [if_pos g, Nat.add_div_right _ (Nat.two_pow_pos i), Nat.div_eq_of_lt hl]
        exact ⟨fun _ => g, fun _ => rfl⟩
      · rw [if_neg g, Nat.add_zero, Nat.div_eq_of_lt hl]
        exact ⟨fun y => absurd y (by decide), fun y => absurd y g⟩
    · have hin : i < n := by omega
      rw [← ih hin]
      by_cases g : F n = true
      · rw [if_pos g]
        have e2 : 2 ^ n = 2 ^ i * (2 * 2 ^ (n - i - 1)) := by
          rw [← Nat.mul_assoc, ← Nat.pow_succ, ← Nat.pow_add]
          congr 1
          omega
        rw [e2, Nat.add_mul_div_left _ _ (Nat.two_pow_pos i), Nat.add_mul_mod_self_left]
      · rw [if_neg g, Nat.add_zero]
def gsx (b0 b1 b2 b3 b4 : Bool) : Nat := 0 + (if b0 = true then 1 else 0) + (if b1 = true then 2 else 0) + (if b2 = true then 4 else 0) + (if b3 = true then 8 else 0) + (if b4 = true then 16 else 0)
theorem gm_see1 : ∀ a0 a1 a3 a4 : Bool, (nI (gsx a0 a1 (a0 && a1) a3 a4) >>> ((2 : Int32) &&& 31)) &&& (1 : Int32) = ((nI (gsx a0 a1 (a0 && a1) a3 a4) >>> ((1 : Int32) &&& 31)) &&& nI (gsx a0 a1 (a0 && a1) a3 a4)) &&& (1 : Int32) := by decide +kernel
theorem gm_see2 : ∀ a0 a1 a2 a3 a4 b0 b1 b3 b4 : Bool, (nI (gsx a0 a1 a2 a3 a4) >>> ((3 : Int32) &&& 31)) &&& (1 : Int32) = (nI (gsx b0 b1 a3 b3 b4) >>> ((2 : Int32) &&& 31)) &&& (1 : Int32) := by decide +kernel
theorem gm_see3 : ∀ a0 a1 a2 a3 a4 b0 b1 b2 b4 : Bool, (nI (gsx a0 a1 a2 a3 a4) >>> ((2 : Int32) &&& 31)) &&& (1 : Int32) = (nI (gsx b0 b1 b2 a2 b4) >>> ((3 : Int32) &&& 31)) &&& (1 : Int32) := by decide +kernel
theorem gm_see0 : ∀ a0 a1 a2 a3 a4 b0 b1 b2 b3 b4 : Bool, (a0 && b0) = false → (a1 && b1) = false → (a2 && b2) = false → (a3 && b3) = false → (a4 && b4) = false → nI (gsx a0 a1 a2 a3 a4) &&& nI (gsx b0 b1 b2 b3 b4) = 0 := by decide +kernel
theorem gm_b2 {a b : Bool} (h : a = true ↔ b = true) : a = b := by
  cases a <;> cases b <;> simp_all
theorem gfit_all {b : Nat → Bool} {N : Nat} : gfit b N = true ↔ ∀ j, j < N → b j = true := by
  induction N with
  | zero => exact ⟨fun _ j hj => absurd hj (Nat.not_lt_zero j), fun _ => rfl⟩
  | succ N ih =>
    rw [gfit_s, ih]
    constructor
    · rintro ⟨h1, h2⟩ j hj
      by_cases e : j = N
      · rw [e]; exact h2
      · exact h1 j (by omega)
    · intro h
      exact ⟨fun j hj => h j (by omega), h N (by omega)⟩
def gkA (s : Nat → Int32) (N kind : Nat) : Bool := gfit (fun j => ghold (nI kind) (s j) == true) N
def gkN (s : Nat → Int32) (N kind : Nat) : Bool := gfit (fun j => ghold (nI kind) (s j) == false) N
theorem gkA_iff {s : Nat → Int32} {N kind : Nat} : gkA s N kind = true ↔ ∀ j, j < N → ghold (nI kind) (s j) = true := by
  unfold gkA
  rw [gfit_all]
  exact ⟨fun h j hj => by have := h j hj; rw [beq_iff_eq] at this; exact this, fun h j hj => by rw [beq_iff_eq]; exact h j hj⟩
theorem gkN_iff {s : Nat → Int32} {N kind : Nat} : gkN s N kind = true ↔ ∀ j, j < N → ¬ ghold (nI kind) (s j) = true := by
  unfold gkN
  rw [gfit_all]
  exact ⟨fun h j hj => by have := h j hj; rw [beq_iff_eq] at this; rw [this]; decide, fun h j hj => by rw [beq_iff_eq, ← Bool.not_eq_true]; exact h j hj⟩
theorem gh_0 (s : Int32) : ghold (nI 0) s = true ↔ 0 ≤ s.toInt := gh_iff (by decide)
theorem gh_1 (s : Int32) : ghold (nI 1) s = true ↔ s.toInt ≤ 0 := gh_iff (by decide)
theorem gh_2 (s : Int32) : ghold (nI 2) s = true ↔ s.toInt = 0 := gh_iff (by decide)
theorem gh_3 (s : Int32) : ghold (nI 3) s = true ↔ ¬ s.toInt = 0 := gh_iff (by decide)
theorem gk_same (s : Nat → Int32) (N : Nat) : gkA s N 2 = (gkA s N 0 && gkA s N 1) := by
  refine gm_b2 ?_
  rw [Bool.and_eq_true, gkA_iff, gkA_iff, gkA_iff]
  constructor
  · intro h
    exact ⟨fun j hj => by have := (gh_2 _).mp (h j hj); rw [gh_0]; omega, fun j hj => by have := (gh_2 _).mp (h j hj); rw [gh_1]; omega⟩
  · rintro ⟨h0, h1⟩ j hj
    have := (gh_0 _).mp (h0 j hj)
    have := (gh_1 _).mp (h1 j hj)
    rw [gh_2]
    omega
theorem gk_other (s : Nat → Int32) (N : Nat) : gkN s N 2 = gkA s N 3 := by
  refine gm_b2 ?_
  rw [gkA_iff, gkN_iff]
  exact ⟨fun h j hj => by have := h j hj; rw [gh_2] at this; rw [gh_3]; exact this, fun h j hj => by have := h j hj; rw [gh_3] at this; rw [gh_2]; exact this⟩
theorem gk_none (s : Nat → Int32) (N : Nat) : gkN s N 3 = gkA s N 2 := by
  refine gm_b2 ?_
  rw [gkA_iff, gkN_iff]
  exact ⟨fun h j hj => by have := h j hj; rw [gh_3] at this; rw [gh_2]; omega, fun h j hj => by have := h j hj; rw [gh_2] at this; rw [gh_3]; omega⟩
theorem gk_not {s : Nat → Int32} {N : Nat} (hN : 0 < N) (kind : Nat) : (gkA s N kind && gkN s N kind) = false := by
  rw [← Bool.not_eq_true, Bool.and_eq_true, gkA_iff, gkN_iff]
  rintro ⟨h1, h2⟩
  exact h2 0 hN (h1 0 hN)
theorem gk_at (s : Nat → Int32) (N : Nat) : gfm (fun kind => gfit (fun j => ghold (nI kind) (s j) == decide (0 = 0)) N) 5 = gsx (gkA s N 0) (gkA s N 1) (gkA s N 2) (gkA s N 3) (gkA s N 4) := rfl
theorem gk_no (s : Nat → Int32) (N : Nat) : gfm (fun kind => gfit (fun j => ghold (nI kind) (s j) == decide (1 = 0)) N) 5 = gsx (gkN s N 0) (gkN s N 1) (gkN s N 2) (gkN s N 3) (gkN s N 4) := rfl
theorem gbs_all : ∀ n, n ≤ 8 → ∀ m, m < 2 ^ n → (gbs m 15 = n ↔ m = 2 ^ n - 1) := by decide +kernel
theorem gpow35 : ∀ f, f < 9 → 3 ^ f ≤ 5 ^ f ∧ 5 ^ f < 2 ^ 31 := by decide
theorem gcut_2 {q : Nat} : gcut (nI 2) (nI q).toInt64 = (nI q).toInt64 := by
  unfold gcut
  rw [if_neg (by decide), if_neg (by decide), if_pos (by rfl)]
  exact congrArg Int32.toInt64 (Int32.toInt32_toInt64 _)
section KE
variable {c n mo u : Nat} {C : Nat → Nat → Int32} {cells past h w : Nat → Int32} {known size most draw changes seen : Int32} {items : Nat → Int64} {lanes sizes : Nat → Int32}
/-- odds of a point -/
theorem lx_see_asked {r p : Nat} {s0 : Int32} {K : Int32 → Int32 → Prop} (hT : gTc n mo C cells size most) (hr : r < 4096) (hb : gbox mo r = true) (hs : s0 = if gmask C n r = 2 ^ n - 1 then 1 else 0) (hK : K 1 (nI p + (1 : Int32))) : p_L_seen_259 size most cells (nI p) (nI r) s0 K := by
  have hn := hT.1
  have ga := gbs_all n hn _ (gmask_lt C n r)
  have ok : p_L_seen_322 (nI p) K := by
    unfold p_L_seen_322 p_L_seen_327
    exact hK
  have fin : ∀ x : Int32, p_L_seen_288 size most cells (nI p) (nI r) x x K := fun x => by
    unfold p_L_seen_288
    refine ⟨fun _ => ?_, fun y => absurd rfl y⟩
    refine k_asked (c := 0) (w := 0) hT hr hb (by decide) (by decide) (fun _ => ⟨fun _ => ?_, fun y => absurd ?_ y⟩)
    · refine k_asked (c := 4) (w := 0) hT hr hb (by decide) (by decide) (fun _ => k_asked (c := 4) (w := 1) hT hr hb (by decide) (by decide) (fun _ => ⟨fun y => ?_, fun _ => ok⟩))
      have pw := gpow35 (n - gbs (gmask C n r) 15) (by omega)
      rw [show (if (1 : Nat) = 0 then 10 - 4 else 10) / Nat.gcd (10 - 4) 10 = 5 from by decide, show (if (0 : Nat) = 0 then 10 - 4 else 10) / Nat.gcd (10 - 4) 10 = 3 from by decide, nI_ltI (by omega) (by omega)] at y
      omega
    · rw [show (if (0 : Nat) = 0 then 10 - 0 else 10) / Nat.gcd (10 - 0) 10 = 1 from by decide, Nat.one_pow]
      rfl
  unfold p_L_seen_259
  refine ⟨fun y => ?_, fun _ => k_asked (c := 10) (w := 0) hT hr hb (by decide) (by decide) (fun hg => ?_)⟩
  · rw [gl_4095, nI_ltI (by decide) (by omega)] at y; omega
  · rw [show (if (0 : Nat) = 0 then 10 - 10 else 10) / Nat.gcd (10 - 10) 10 = 0 from by decide]
    by_cases e : gmask C n r = 2 ^ n - 1
    · rw [if_pos e] at hs
      have e0 : n - gbs (gmask C n r) 15 = 0 := by rw [ga.mpr e]; omega
      rw [e0, hs]
      exact ⟨g10, fun _ => fin _⟩
    · rw [if_neg e] at hs
      have e0 : 0 < n - gbs (gmask C n r) 15 := by
        have := mt ga.mp e
        omega
      rw [Nat.zero_pow e0, hs]
      exact ⟨fun _ => fin _, g00⟩
theorem lx_seen {Q : Int32 → Int32 → Int32 → (Nat → Int32) → (Nat → Int32) → Int32 → (Nat → Int32) → (Nat → Int64) → (Nat → Int32) → (Nat → Int32) → Prop} (hT : gTc n mo C cells size most) (hw : gLw n mo C w) (hu : u ≤ 8) (hkn : known = nI u) (hz : gZ c n mo cells changes seen h) (hc : c + 200 < 2 ^ 31)
    (hQ : ∀ v c' known' changes' cells' past' seen' h' it' la' si', v ≤ 8 → known' = nI v → c' ≤ c + 80 → gTc n mo C cells' size most → gZ c' n mo cells' changes' seen' h' → Q 1 known' changes' cells' past' seen' h' it' la' si') : p_L_seen known size most draw changes cells past seen h items lanes sizes w Q := by
  have hn := hT.1
  have hmo7 := hT.2.2.1
  unfold p_L_seen
  refine k_count2 hT hz.2.2 (fun h1 g1 => ?_)
  refine k_sheet (s := 1) (l := 2) (z := 8) (by decide) (by decide) (by decide) (fun it1 => ⟨fun _ => ?_, fun y => absurd rfl y⟩)
  refine k_film (N := 8) (s := 1) (l := 2) (z := 8) (i := 0) hT (fun _ => g1) (by decide) (by decide) (by decide) (by decide) pk_us pk_us (by decide) (by decide) (fun h2 it2 g2 hfit => ⟨fun _ => ?_, fun y => absurd rfl y⟩)
  have hz2 := hz.look g2
  -- behind the kinds: three odds, then clear, turns
  have tail : p_L_seen_209 known size most draw changes cells past changes h2 it2 (upd lanes 1 (nI 2)) (upd sizes 1 (nI 8)) w 1 Q := by
    unfold p_L_seen_209
    refine gi2_ix (fun i a b => ∃ p, i + p = 3 ∧ b = nI p ∧ a = 1) ?_ 3 ⟨0, rfl, rfl, rfl⟩
    rintro i X a b ⟨p, hi, rfl, rfl⟩ hX
    have last : p_L_seen_334 known size most draw changes cells past changes h2 it2 (upd lanes 1 (nI 2)) (upd sizes 1 (nI 8)) w 1 Q := by
      unfold p_L_seen_334
      refine ⟨g10, fun _ => k_clear (s := 1) (z := 8) (by decide) (by rw [pk_us]; decide) pk_us (fun la3 => ⟨fun _ => ?_, fun y => absurd rfl y⟩)⟩
      exact lx_turns hT hw hu hkn hz2 (by omega) (fun v c' ce pa ch se ho q1 q2 q3 q4 => ⟨g10, fun _ => hQ v c' _ ch ce pa se ho _ _ _ q1 rfl q2 q3 q4⟩)
    unfold p_L_seen_212
    refine ⟨fun _ => last, fun y => ⟨g10, fun _ => ?_⟩⟩
    rw [gl_3, nI_leI (by decide) (by omega)] at y
    have goX : X 1 (nI p + (1 : Int32)) := hX (i - 1) _ _ (by omega) ⟨p + 1, by omega, by rw [gl_1, nI_add], rfl⟩
    refine lx_next hw hmo7 (q := 97 * p + 1) (by rw [show (97 : Int32) = nI 97 from rfl, gl_1, pk_mul, nI_add]) (by omega) (fun r r1 r2 r3 _ => ⟨fun z => ?_, fun z => ?_⟩)
    · rw [gl_4096, nI_leI (by decide) (by omega)] at z
      unfold p_L_seen_258 p_L_seen_259
      refine ⟨fun _ => ?_, fun z2 => absurd (by rw [gl_4095, nI_ltI (by decide) (by omega)]; omega) z2⟩
      unfold p_L_seen_322 p_L_seen_327
      exact goX
    · rw [gl_4096, nI_leI (by decide) (by omega)] at z
      have hr4 : r < 4096 := by omega
      have mlt := gmask_lt C n r
      have p2 := gm_p2 n hn
      refine k_hold hT hr4 (lx_all hw hn ⟨fun e => ?_, fun e => ?_⟩)
      · rw [nI_eq (by omega) (by omega)] at e
        exact lx_see_asked hT hr4 (r3 hr4) (by rw [if_pos e]) goX
      · rw [nI_eq (by omega) (by omega)] at e
        unfold p_L_seen_258
        exact lx_see_asked hT hr4 (r3 hr4) (by rw [if_neg e]) goX
  -- the kinds of each constraint, by the points that were filmed
  have kinds : ∀ sz, sz ≤ 8 → sz ≤ gcnt (gfull C n mo) 4096 → p_L_seen_51 known size most draw changes cells past changes h2 it2 (upd lanes 1 (nI 2)) (upd sizes 1 (nI 8)) w 1 (nI sz) Q := by
    intro sz hsz8 hszN
    obtain ⟨P, hP⟩ : ∃ P : Nat → Nat, ∀ j, j < sz → P j < 4096 ∧ gfull C n mo (P j) = true ∧ gcnt (gfull C n mo) (P j) = j := by
      refine ⟨fun j => if hj : j < gcnt (gfull C n mo) 4096 then Classical.choose (gcnt_sur (gfull C n mo) 4096 j hj) else 0, fun j hj => ?_⟩
      have hj2 : j < gcnt (gfull C n mo) 4096 := by omega
      dsimp only
      rw [dif_pos hj2]
      exact Classical.choose_spec (gcnt_sur (gfull C n mo) 4096 j hj2)
    have hPi : ∀ j, j < sz → P j < 4096 ∧ it2 (24 * 1 + (0 + j)) = (nI (P j)).toInt64 := fun j hj => by
      obtain ⟨p1, p2, p3⟩ := hP j hj
      refine ⟨p1, ?_⟩
      have := (hfit j (by omega)).1 (P j) p1 p2 p3
      rw [gcut_2] at this
      rw [← this]
      congr 1
      omega
    unfold p_L_seen_51
    refine gi2_ix (fun i a b => ∃ k, i + k = n ∧ b = nI k ∧ a = 1) ?_ n ⟨0, rfl, rfl, rfl⟩
    rintro i X a b ⟨k, hi, rfl, rfl⟩ hX
    unfold p_L_seen_56
    refine ⟨gx_in 0 rfl (by decide) (by decide), ?_⟩
    rw [gcl_0, hw.1]
    refine ⟨fun _ => tail, fun y => ⟨g10, fun _ => ⟨fun _ => tail, fun y2 => ?_⟩⟩⟩
    rw [nI_leI (by omega) (by omega)] at y
    rw [gl_0, nI_leI (by omega) (by decide)] at y2
    have hk : k < n := by omega
    obtain ⟨-, -, kd, hkd4, hkd⟩ := hT.2.2.2.2.2.2 k hk
    have sl : (upd lanes 1 (nI 2)) 1 = nI 2 := pk_us
    have ss : (upd sizes 1 (nI 8)) 1 = nI 8 := pk_us
    refine k_seen (s := 1) (l := 2) (z := 8) (i := 0) (w := 0) (P := P) hT hk (by omega) hsz8 (by decide) (by decide) (by decide) sl ss (by decide) (by omega) hPi ?_
    refine k_seen (s := 1) (l := 2) (z := 8) (i := 0) (w := 1) (P := P) hT hk (by omega) hsz8 (by decide) (by decide) (by decide) sl ss (by decide) (by omega) hPi ?_
    have bA := gfm_bit (fun kind => gfit (fun j => ghold (nI kind) (gsum (C k) (P j)) == decide (0 = 0)) sz) kd 5 (by omega)
    have bN := gfm_bit (fun kind => gfit (fun j => ghold (nI kind) (gsum (C k) (P j)) == decide (1 = 0)) sz) kd 5 (by omega)
    have lA := gfm_lt (fun kind => gfit (fun j => ghold (nI kind) (gsum (C k) (P j)) == decide (0 = 0)) sz) 5
    have lN := gfm_lt (fun kind => gfit (fun j => ghold (nI kind) (gsum (C k) (P j)) == decide (1 = 0)) sz) 5
    have hA : gkA (fun j => gsum (C k) (P j)) sz kd = true := gkA_iff.mpr (fun j hj => by
      have := ((gfull_H hn).mp (hP j hj).2.1).2 k hk
      unfold gH at this
      rw [hkd] at this
      exact this)
    have hNn : ¬ gkN (fun j => gsum (C k) (P j)) sz kd = true := fun y => by
      have := gk_not (s := fun j => gsum (C k) (P j)) (N := sz) (by omega) kd
      rw [hA, y] at this
      exact absurd this (by decide)
    have bA1 := bA.mpr hA
    have bN0 : gfm (fun kind => gfit (fun j => ghold (nI kind) (gsum (C k) (P j)) == decide (1 = 0)) sz) 5 / 2 ^ kd % 2 = 0 := by
      have := mt bN.mp hNn
      omega
    refine k_of (j := 5) hT hk (by decide) ?_
    rw [hkd, gm_bit (by omega) (by omega), gm_bit (by omega) (by omega), bA1, bN0]
    rw [gk_at (fun j => gsum (C k) (P j)) sz, gk_no (fun j => gsum (C k) (P j)) sz]
    refine ⟨fun _ => ⟨fun _ => ⟨fun _ => ?_, fun y => absurd rfl y⟩, fun y => absurd ?_ y⟩, fun y => absurd rfl y⟩
    · unfold p_L_seen_144
      refine ⟨g10, fun _ => ⟨fun _ => ⟨fun _ => ⟨fun _ => ?_, fun y => absurd ?_ y⟩, fun y => absurd ?_ y⟩, fun y => absurd ?_ y⟩⟩
      · unfold p_L_seen_202
        exact hX (i - 1) _ _ (by omega) ⟨k + 1, by omega, by rw [gl_1, nI_add], rfl⟩
      · rw [gk_none]
        exact gm_see3 _ _ _ _ _ _ _ _ _
      · rw [gk_other]
        exact gm_see2 _ _ _ _ _ _ _ _ _
      · rw [gk_same]
        exact gm_see1 _ _ _ _
    · exact gm_see0 _ _ _ _ _ _ _ _ _ _ (gk_not (by omega) 0) (gk_not (by omega) 1) (gk_not (by omega) 2) (gk_not (by omega) 3) (gk_not (by omega) 4)
  unfold p_L_seen_38
  refine ⟨fun y => kinds 8 (Nat.le_refl _) ?_, fun y => kinds _ ?_ (Nat.le_refl _)⟩
  · rw [gl_8, nI_leI (by decide) (gN31 _)] at y; exact y
  · rw [gl_8, nI_leI (by decide) (gN31 _)] at y; omega
end KE
