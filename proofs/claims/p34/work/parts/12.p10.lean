/-! shadows: what is dark is true, what is true is real -/
theorem gI_mul {x y : Int32} {a b : Nat} (hx : gB x a) (hy : gB y b) (h : a * b < 2 ^ 30) : (x * y).toInt = x.toInt * y.toInt := by
  unfold gB at hx hy
  have h1 : (x.toInt * y.toInt).natAbs ≤ a * b := by rw [Int.natAbs_mul]; exact Nat.mul_le_mul hx hy
  rw [Int32.toInt_mul, gm_bm (by omega) (by omega)]
theorem gI_add {x y : Int32} {a b : Nat} (hx : gB x a) (hy : gB y b) (h : a + b < 2 ^ 30) : (x + y).toInt = x.toInt + y.toInt := by
  unfold gB at hx hy
  rw [Int32.toInt_add, gm_bm (by omega) (by omega)]
theorem gI_sub {x y : Int32} {a b : Nat} (hx : gB x a) (hy : gB y b) (h : a + b < 2 ^ 30) : (x - y).toInt = x.toInt - y.toInt := by
  unfold gB at hx hy
  rw [Int32.toInt_sub, gm_bm (by omega) (by omega)]
theorem gI_neg {x : Int32} {a : Nat} (hx : gB x a) (h : a < 2 ^ 30) : (-x).toInt = -x.toInt := by
  unfold gB at hx
  rw [Int32.toInt_neg, gm_bm (by omega) (by omega)]
theorem gB_le {x : Int32} {a b : Nat} (hx : gB x a) (h : a ≤ b) : gB x b := by
  unfold gB at hx ⊢
  omega
theorem gB_nI {n : Nat} (h : n < 2 ^ 31) : gB (nI n) n := by
  unfold gB
  rw [nI_toInt h]
  omega
def isum (x : Nat → Int32) (p : Nat) : Int := (x 0).toInt * (gv p 0 : Int) + (x 1).toInt * (gv p 1 : Int) + (x 2).toInt * (gv p 2 : Int) + (x 3).toInt * (gv p 3 : Int) + (x 4).toInt
theorem gI_mv {x : Int32} {v b : Nat} (hx : gB x b) (hb : b ≤ 30000) (hv : v < 8) : (x * nI v).toInt = x.toInt * (v : Int) ∧ gB (x * nI v) (b * 8) ∧ (x.toInt * (v : Int)).natAbs ≤ b * 7 := by
  have hv8 : gB (nI v) 8 := gB_le (gB_nI (by omega)) (by omega)
  have e := gI_mul hx hv8 (by omega)
  rw [nI_toInt (by omega)] at e
  refine ⟨e, gB_mul hx hv8 (by omega), ?_⟩
  rw [Int.natAbs_mul]
  unfold gB at hx
  exact Nat.mul_le_mul hx (by omega)
theorem gsum_isum {x : Nat → Int32} {p : Nat} (hb : ∀ j, j < 5 → gB (x j) 30000) : (gsum x p).toInt = isum x p := by
  obtain ⟨e0, b0, -⟩ := gI_mv (hb 0 (by decide)) (Nat.le_refl _) (gv_lt p 0)
  obtain ⟨e1, b1, -⟩ := gI_mv (hb 1 (by decide)) (Nat.le_refl _) (gv_lt p 1)
  obtain ⟨e2, b2, -⟩ := gI_mv (hb 2 (by decide)) (Nat.le_refl _) (gv_lt p 2)
  obtain ⟨e3, b3, -⟩ := gI_mv (hb 3 (by decide)) (Nat.le_refl _) (gv_lt p 3)
  have s1 := gB_add b0 b1 (by decide)
  have s2 := gB_add s1 b2 (by decide)
  have s3 := gB_add s2 b3 (by decide)
  unfold gsum isum
  rw [gI_add s3 (hb 4 (by decide)) (by decide), gI_add s2 b3 (by decide), gI_add s1 b2 (by decide), gI_add b0 b1 (by decide), e0, e1, e2, e3]
theorem isum_bd {x : Nat → Int32} {p : Nat} (hb : ∀ j, j < 5 → gB (x j) 99) : -3000 ≤ isum x p ∧ isum x p ≤ 3000 := by
  obtain ⟨-, -, e0⟩ := gI_mv (hb 0 (by decide)) (by decide) (gv_lt p 0)
  obtain ⟨-, -, e1⟩ := gI_mv (hb 1 (by decide)) (by decide) (gv_lt p 1)
  obtain ⟨-, -, e2⟩ := gI_mv (hb 2 (by decide)) (by decide) (gv_lt p 2)
  obtain ⟨-, -, e3⟩ := gI_mv (hb 3 (by decide)) (by decide) (gv_lt p 3)
  have e4 := hb 4 (by decide)
  unfold gB at e4
  unfold isum
  omega
/-- a pair of rows, v gone -/
theorem gpr_B {lo up : Nat → Int32} {v : Nat} {dark : Bool} (hv : v < 5) (h1 : ∀ j, j < 5 → gB (lo j) 99) (h2 : ∀ j, j < 5 → gB (up j) 99) : ∀ j, j < 5 → gB (gpr lo up v dark j) 30000 := by
  intro j hj
  have a1 := gB_add (gB_mul (h1 j hj) (gB_neg (h2 v hv) (by decide)) (by decide)) (gB_mul (h2 j hj) (h1 v hv) (by decide)) (by decide)
  have one : gB (1 : Int32) 1 := by unfold gB; decide
  have a2 := gB_mul (gB_sub (h1 v hv) one (by decide)) (gB_sub (gB_neg (h2 v hv) (by decide)) one (by decide)) (by decide)
  unfold gpr
  split
  · split
    · exact gB_le (gB_sub a1 a2 (by decide)) (by decide)
    · exact gB_le (gB_sub a1 (show gB (0 : Int32) 0 by unfold gB; decide) (by decide)) (by decide)
  · exact gB_le a1 (by decide)
def gdk1 (lo up : Nat → Int32) (v : Nat) (dark : Bool) : Int := if dark = true then ((lo v).toInt - 1) * (-(up v).toInt - 1) else 0
theorem gpr_I {lo up : Nat → Int32} {v : Nat} {dark : Bool} (hv : v < 5) (h1 : ∀ j, j < 5 → gB (lo j) 99) (h2 : ∀ j, j < 5 → gB (up j) 99) : (∀ j, j < 4 → (gpr lo up v dark j).toInt = (lo j).toInt * -(up v).toInt + (up j).toInt * (lo v).toInt) ∧ (gpr lo up v dark 4).toInt = (lo 4).toInt * -(up v).toInt + (up 4).toInt * (lo v).toInt - gdk1 lo up v dark := by
  have one : gB (1 : Int32) 1 := by unfold gB; decide
  have e1 : (1 : Int32).toInt = 1 := rfl
  have e0 : (0 : Int32).toInt = 0 := rfl
  have nb := gB_neg (h2 v hv) (by decide)
  have base : ∀ j, j < 5 → (lo j * -(up v) + up j * lo v).toInt = (lo j).toInt * -(up v).toInt + (up j).toInt * (lo v).toInt := fun j hj => by
    rw [gI_add (gB_mul (h1 j hj) nb (by decide)) (gB_mul (h2 j hj) (h1 v hv) (by decide)) (by decide), gI_mul (h1 j hj) nb (by decide), gI_mul (h2 j hj) (h1 v hv) (by decide), gI_neg (h2 v hv) (by decide)]
  refine ⟨fun j hj => ?_, ?_⟩
  · unfold gpr
    rw [if_neg (by omega)]
    exact base j (by omega)
  · have a1 := gB_add (gB_mul (h1 4 (by decide)) nb (by decide)) (gB_mul (h2 4 (by decide)) (h1 v hv) (by decide)) (by decide)
    have s1 := gB_sub (h1 v hv) one (by decide)
    have s2 := gB_sub nb one (by decide)
    unfold gpr gdk1
    rw [if_pos rfl]
    by_cases d : dark = true
    · rw [if_pos d, if_pos d, gI_sub a1 (gB_mul s1 s2 (by decide)) (by decide), base 4 (by decide), gI_mul s1 s2 (by decide), gI_sub (h1 v hv) one (by decide), gI_sub nb one (by decide), gI_neg (h2 v hv) (by decide), e1]
    · rw [if_neg d, if_neg d, gI_sub a1 (show gB (0 : Int32) 0 by unfold gB; decide) (by decide), base 4 (by decide), e0]
theorem isum_pr {lo up : Nat → Int32} {v p : Nat} {dark : Bool} (hv : v < 5) (h1 : ∀ j, j < 5 → gB (lo j) 99) (h2 : ∀ j, j < 5 → gB (up j) 99) : isum (gpr lo up v dark) p = -(up v).toInt * isum lo p + (lo v).toInt * isum up p - gdk1 lo up v dark := by
  obtain ⟨ea, e4⟩ := gpr_I (dark := dark) hv h1 h2
  have t : ∀ (l u nb a g : Int), (l * nb + u * a) * g = nb * (l * g) + a * (u * g) := fun l u nb a g => by
    rw [Int.add_mul, Int.mul_comm l nb, Int.mul_assoc, Int.mul_comm u a, Int.mul_assoc]
  unfold isum
  rw [ea 0 (by decide), ea 1 (by decide), ea 2 (by decide), ea 3 (by decide), e4, t, t, t, t, Int.mul_comm (lo 4).toInt, Int.mul_comm (up 4).toInt]
  simp only [Int.mul_add]
  omega
/-- reduced rows -/
theorem gred_B {x : Nat → Int32} {b : Nat} (hb2 : b < 2 ^ 30) (hb : ∀ j, j < 5 → gB (x j) b) : ∀ j, j < 5 → gB (gred x j) b := by
  intro j hj
  unfold gred
  by_cases e : ggc x 4 = 0
  · rw [if_pos e]; exact hb j hj
  · rw [if_neg e]
    have h := hb j hj
    unfold gB at h ⊢
    have hg : 0 < ggc x 4 := Nat.pos_of_ne_zero e
    rw [gfl_toInt hg (by omega)]
    have := gm_edb (X := (x j).toInt) (d := (ggc x 4 : Int)) (by omega)
    omega
theorem gfl_dvd {x : Int32} {d : Nat} (hd : 0 < d) (hx : x.toInt.natAbs < 2 ^ 30) (hdv : d ∣ x.toInt.natAbs) : x.toInt = (gfl x d).toInt * (d : Int) := by
  rw [gfl_toInt hd hx]
  exact (Int.ediv_mul_cancel (Int.ofNat_dvd_left.mpr hdv)).symm
theorem isum_red {x : Nat → Int32} {p : Nat} (hb : ∀ j, j < 5 → gB (x j) 30000) : 0 ≤ isum (gred x) p ↔ 0 ≤ isum x p := by
  have hx : ∀ j, j < 5 → (x j).toInt.natAbs < 2 ^ 30 := fun j hj => by
    have := hb j hj
    unfold gB at this
    omega
  by_cases e : ggc x 4 = 0
  · have : gred x = x := by
      funext j
      unfold gred
      rw [if_pos e]
    rw [this]
  · have hg : 0 < ggc x 4 := Nat.pos_of_ne_zero e
    have hgI : (0 : Int) < (ggc x 4 : Int) := by omega
    have r : ∀ j, gred x j = gfl (x j) (ggc x 4) := fun j => by
      unfold gred
      rw [if_neg e]
    have d : ∀ j, j < 4 → (x j).toInt = (gfl (x j) (ggc x 4)).toInt * (ggc x 4 : Int) := fun j hj => gfl_dvd hg (hx j (by omega)) (ggc_dvd x 4 j hj)
    have k4 := gfl_toInt hg (hx 4 (by decide))
    have e2 : isum x p = ((gfl (x 0) (ggc x 4)).toInt * (gv p 0 : Int) + (gfl (x 1) (ggc x 4)).toInt * (gv p 1 : Int) + (gfl (x 2) (ggc x 4)).toInt * (gv p 2 : Int) + (gfl (x 3) (ggc x 4)).toInt * (gv p 3 : Int)) * (ggc x 4 : Int) + (x 4).toInt := by
      have t : ∀ a g v : Int, a * g * v = a * v * g := fun a g v => by rw [Int.mul_assoc, Int.mul_comm g v, Int.mul_assoc]
      have hj : ∀ j, j < 4 → (x j).toInt * (gv p j : Int) = (gfl (x j) (ggc x 4)).toInt * (gv p j : Int) * (ggc x 4 : Int) := fun j hj => by rw [← t, ← d j hj]
      unfold isum
      rw [Int.add_mul, Int.add_mul, Int.add_mul, hj 0 (by decide), hj 1 (by decide), hj 2 (by decide), hj 3 (by decide)]
    have e1 : isum (gred x) p = ((gfl (x 0) (ggc x 4)).toInt * (gv p 0 : Int) + (gfl (x 1) (ggc x 4)).toInt * (gv p 1 : Int) + (gfl (x 2) (ggc x 4)).toInt * (gv p 2 : Int) + (gfl (x 3) (ggc x 4)).toInt * (gv p 3 : Int)) + (x 4).toInt / (ggc x 4 : Int) := by
      unfold isum
      rw [r, r, r, r, r, k4]
    rw [e1, e2]
    generalize (gfl (x 0) (ggc x 4)).toInt * (gv p 0 : Int) + (gfl (x 1) (ggc x 4)).toInt * (gv p 1 : Int) + (gfl (x 2) (ggc x 4)).toInt * (gv p 2 : Int) + (gfl (x 3) (ggc x 4)).toInt * (gv p 3 : Int) = K
    generalize (ggc x 4 : Int) = g at hgI
    have key : (K * g + (x 4).toInt) / g = K + (x 4).toInt / g := by
      rw [Int.add_comm, Int.add_mul_ediv_right _ _ (by omega), Int.add_comm]
    rw [← key, Int.le_ediv_iff_mul_le hgI, Int.zero_mul]
/-! rows of shadows, as lists -/
theorem gin_mem {S : List (Nat → Int32)} {p : Nat} (hb : ∀ x ∈ S, ∀ j, j < 5 → gB (x j) 30000) : gin S p = true ↔ ∀ x ∈ S, 0 ≤ isum x p := by
  have z0 : (0 : Int32).toInt = 0 := rfl
  unfold gin
  rw [gfit_all]
  constructor
  · intro h x hx
    obtain ⟨r, hr, e⟩ := List.getElem_of_mem hx
    have := h r hr
    rw [decide_eq_true_eq, Int32.le_iff_toInt_le, z0, gsum_isum (hb _ (sr_mem hr))] at this
    have es : sr S r = x := by
      unfold sr
      rw [List.getD_eq_getElem?_getD, List.getElem?_eq_getElem hr, e]
      rfl
    rw [es] at this
    exact this
  · intro h r hr
    rw [decide_eq_true_eq, Int32.le_iff_toInt_le, z0, gsum_isum (hb _ (sr_mem hr))]
    exact h _ (sr_mem hr)
theorem mem_gal {S : List (Nat → Int32)} {v : Nat} {x : Nat → Int32} : ∀ N, x ∈ gal S v N ↔ ∃ r, r < N ∧ sr S r v = 0 ∧ x = gred (sr S r) := by
  intro N
  induction N with
  | zero => exact ⟨fun h => absurd h List.not_mem_nil, fun ⟨r, hr, _⟩ => absurd hr (Nat.not_lt_zero r)⟩
  | succ N ih =>
    show x ∈ gal S v N ++ (if sr S N v = 0 then [gred (sr S N)] else []) ↔ _
    rw [List.mem_append, ih]
    constructor
    · rintro (⟨r, a, b⟩ | h)
      · exact ⟨r, by omega, b⟩
      · by_cases e : sr S N v = 0
        · rw [if_pos e, List.mem_singleton] at h
          exact ⟨N, by omega, e, h⟩
        · rw [if_neg e] at h
          exact absurd h List.not_mem_nil
    · rintro ⟨r, a, b, d⟩
      by_cases e : r = N
      · subst e
        exact Or.inr (by rw [if_pos b, List.mem_singleton]; exact d)
      · exact Or.inl ⟨r, by omega, b, d⟩
theorem mem_gpi {S : List (Nat → Int32)} {v lo : Nat} {dark : Bool} {x : Nat → Int32} : ∀ N, x ∈ gpi S v dark lo N ↔ ∃ u, u < N ∧ 0 < sr S lo v ∧ sr S u v < 0 ∧ x = gred (gpr (sr S lo) (sr S u) v dark) := by
  intro N
  induction N with
  | zero => exact ⟨fun h => absurd h List.not_mem_nil, fun ⟨r, hr, _⟩ => absurd hr (Nat.not_lt_zero r)⟩
  | succ N ih =>
    show x ∈ gpi S v dark lo N ++ (if 0 < sr S lo v ∧ sr S N v < 0 then [gred (gpr (sr S lo) (sr S N) v dark)] else []) ↔ _
    rw [List.mem_append, ih]
    constructor
    · rintro (⟨r, a, b⟩ | h)
      · exact ⟨r, by omega, b⟩
      · by_cases e : 0 < sr S lo v ∧ sr S N v < 0
        · rw [if_pos e, List.mem_singleton] at h
          exact ⟨N, by omega, e.1, e.2, h⟩
        · rw [if_neg e] at h
          exact absurd h List.not_mem_nil
    · rintro ⟨r, a, b, b2, d⟩
      by_cases e : r = N
      · subst e
        exact Or.inr (by rw [if_pos ⟨b, b2⟩, List.mem_singleton]; exact d)
      · exact Or.inl ⟨r, by omega, b, b2, d⟩
theorem mem_gpo {S : List (Nat → Int32)} {v N : Nat} {dark : Bool} {x : Nat → Int32} : ∀ L, x ∈ gpo S v dark N L ↔ ∃ l, l < L ∧ x ∈ gpi S v dark l N := by
  intro L
  induction L with
  | zero => exact ⟨fun h => absurd h List.not_mem_nil, fun ⟨r, hr, _⟩ => absurd hr (Nat.not_lt_zero r)⟩
  | succ L ih =>
    show x ∈ gpo S v dark N L ++ gpi S v dark L N ↔ _
    rw [List.mem_append, ih]
    constructor
    · rintro (⟨r, a, b⟩ | h)
      · exact ⟨r, by omega, b⟩
      · exact ⟨L, by omega, h⟩
    · rintro ⟨r, a, b⟩
      by_cases e : r = L
      · subst e; exact Or.inr b
      · exact Or.inl ⟨r, by omega, b⟩
theorem mem_shd {S : List (Nat → Int32)} {v : Nat} {dark : Bool} {x : Nat → Int32} : x ∈ gshd S v dark ↔ (∃ r, r < S.length ∧ sr S r v = 0 ∧ x = gred (sr S r)) ∨ ∃ l u, l < S.length ∧ u < S.length ∧ 0 < sr S l v ∧ sr S u v < 0 ∧ x = gred (gpr (sr S l) (sr S u) v dark) := by
  unfold gshd
  rw [List.mem_append, mem_gal, mem_gpo]
  constructor
  · rintro (h | ⟨l, hl, h⟩)
    · exact Or.inl h
    · obtain ⟨u, a, b⟩ := (mem_gpi _).mp h
      exact Or.inr ⟨l, u, hl, a, b⟩
  · rintro (h | ⟨l, u, hl, a, b⟩)
    · exact Or.inl h
    · exact Or.inr ⟨l, hl, (mem_gpi _).mpr ⟨u, a, b⟩⟩
theorem gm_pos {x : Int32} : 0 < x ↔ 0 < x.toInt := by rw [Int32.lt_iff_toInt_lt]; rfl
theorem gm_lt0 {x : Int32} : x < 0 ↔ x.toInt < 0 := by rw [Int32.lt_iff_toInt_lt]; rfl
section SH
variable {S : List (Nat → Int32)} {v : Nat}
theorem gshd_B (hv : v < 4) (hS : gsm S) (dark : Bool) : ∀ x ∈ gshd S v dark, ∀ j, j < 5 → gB (x j) 30000 := by
  intro x hx
  rcases mem_shd.mp hx with ⟨r, hr, -, rfl⟩ | ⟨l, u, hl, hu, -, -, rfl⟩
  · exact gred_B (by decide) (fun j hj => gB_le (gsm_sr hS hr hj) (by decide))
  · exact gred_B (by decide) (gpr_B (by omega) (fun j hj => gsm_sr hS hl hj) (fun j hj => gsm_sr hS hu hj))
theorem gsm_B (hS : gsm S) : ∀ x ∈ S, ∀ j, j < 5 → gB (x j) 30000 := fun x hx j hj => gB_le (hS x hx j hj) (by decide)
/-- where all rows hold, the real shadow's rows do -/
theorem gshd_real (hv : v < 4) (hS : gsm S) {p : Nat} (h : ∀ x ∈ S, 0 ≤ isum x p) : ∀ y ∈ gshd S v false, 0 ≤ isum y p := by
  intro y hy
  rcases mem_shd.mp hy with ⟨r, hr, -, rfl⟩ | ⟨l, u, hl, hu, h1, h2, rfl⟩
  · rw [isum_red (gsm_B hS _ (sr_mem hr))]
    exact h _ (sr_mem hr)
  · rw [isum_red (gpr_B (by omega) (fun j hj => gsm_sr hS hl hj) (fun j hj => gsm_sr hS hu hj)), isum_pr (lo := sr S l) (up := sr S u) (by omega) (fun j hj => gsm_sr hS hl hj) (fun j hj => gsm_sr hS hu hj)]
    rw [gm_pos] at h1
    rw [gm_lt0] at h2
    have m1 := Int.mul_nonneg (a := -(sr S u v).toInt) (by omega) (h _ (sr_mem hl))
    have m2 := Int.mul_nonneg (a := (sr S l v).toInt) (by omega) (h _ (sr_mem hu))
    have e : gdk1 (sr S l) (sr S u) v false = 0 := rfl
    omega
/-- room for a whole one: where the dark shadow's rows hold -/
theorem gdark_room (hv : v < 4) (hS : gsm S) {p mo : Nat} (hlo : ∃ x ∈ S, (x v).toInt = 1 ∧ isum x p = 0) (hup : ∃ x ∈ S, (x v).toInt = -1 ∧ isum x p = mo) (h : ∀ y ∈ gshd S v true, 0 ≤ isum y p) : ∃ w : Nat, w ≤ mo ∧ ∀ x ∈ S, 0 ≤ isum x p + (x v).toInt * (w : Int) := by
  have mem_sr : ∀ x ∈ S, ∃ r, r < S.length ∧ sr S r = x := fun x hx => by
    obtain ⟨r, hr, e⟩ := List.getElem_of_mem hx
    refine ⟨r, hr, ?_⟩
    unfold sr
    rw [List.getD_eq_getElem?_getD, List.getElem?_eq_getElem hr, e]
    rfl
  have H0 : ∀ x ∈ S, (x v).toInt = 0 → 0 ≤ isum x p := fun x hx e => by
    obtain ⟨r, hr, rfl⟩ := mem_sr x hx
    have e0 : sr S r v = 0 := Int32.toInt_inj.mp (by rw [e]; rfl)
    have := h _ (mem_shd.mpr (Or.inl ⟨r, hr, e0, rfl⟩))
    rw [isum_red (gsm_B hS _ hx)] at this
    exact this
  have H1 : ∀ l ∈ S, ∀ u ∈ S, 0 < (l v).toInt → (u v).toInt < 0 → 0 ≤ -(u v).toInt * isum l p + (l v).toInt * isum u p - ((l v).toInt - 1) * (-(u v).toInt - 1) := fun l hl u hu e1 e2 => by
    obtain ⟨r, hr, rfl⟩ := mem_sr l hl
    obtain ⟨t, ht, rfl⟩ := mem_sr u hu
    have := h _ (mem_shd.mpr (Or.inr ⟨r, t, hr, ht, gm_pos.mpr e1, gm_lt0.mpr e2, rfl⟩))
    rw [isum_red (gpr_B (by omega) (fun j hj => gsm_sr hS hr hj) (fun j hj => gsm_sr hS ht hj)), isum_pr (lo := sr S r) (up := sr S t) (by omega) (fun j hj => gsm_sr hS hr hj) (fun j hj => gsm_sr hS ht hj)] at this
    exact this
  obtain ⟨w, hw, hmin⟩ := pk_least (fun w => ∀ x ∈ S, 0 < (x v).toInt → 0 ≤ isum x p + (x v).toInt * (w : Int)) ⟨3000, fun x hx hp => by
    have := isum_bd (p := p) (hS x hx)
    have e : ((3000 : Nat) : Int) = 3000 := rfl
    rw [e]
    omega⟩
  -- a lower row that leaves no room below w
  have tight : ∃ l ∈ S, 0 < (l v).toInt ∧ (l v).toInt * (w : Int) ≤ (l v).toInt - 1 - isum l p := by
    by_cases e : w = 0
    · obtain ⟨x, hx, x1, x2⟩ := hlo
      refine ⟨x, hx, by omega, ?_⟩
      rw [e, x1, x2]
      decide
    · have := hmin (w - 1) (by omega)
      obtain ⟨x, hx⟩ := Classical.not_forall.mp this
      obtain ⟨hxS, hx⟩ := Classical.not_imp.mp hx
      obtain ⟨hx1, hx2⟩ := Classical.not_imp.mp hx
      refine ⟨x, hxS, hx1, ?_⟩
      have ew : (w : Int) = ((w - 1 : Nat) : Int) + 1 := by omega
      rw [ew, Int.mul_add, Int.mul_one]
      omega
  obtain ⟨l, hl, la, lt⟩ := tight
  have all : ∀ x ∈ S, 0 ≤ isum x p + (x v).toInt * (w : Int) := fun x hx => by
    rcases Int.lt_trichotomy (x v).toInt 0 with g | g | g
    · have k := H1 l hl x hx la g
      apply Classical.byContradiction
      intro no
      generalize (l v).toInt = a at la lt k
      generalize isum l p = cl at lt k
      generalize isum x p = cu at k no
      have eb : ∃ b : Int, (x v).toInt = -b ∧ 0 < b := ⟨-(x v).toInt, by omega, by omega⟩
      obtain ⟨b, eb, hb⟩ := eb
      rw [eb] at k no
      generalize (w : Int) = W at lt no
      have n1 : cu + 1 ≤ b * W := by
        rw [Int.neg_mul] at no
        omega
      have m1 := Int.mul_le_mul_of_nonneg_left n1 (show 0 ≤ a by omega)
      have m2 := Int.mul_le_mul_of_nonneg_left lt (show 0 ≤ b by omega)
      rw [Int.mul_left_comm a b W] at m1
      rw [Int.neg_neg, Int.sub_mul, Int.mul_sub, Int.one_mul, Int.mul_one] at k
      rw [Int.mul_add, Int.mul_one] at m1
      rw [Int.mul_sub, Int.mul_sub, Int.mul_one, Int.mul_comm b a] at m2
      omega
    · rw [g, Int.zero_mul, Int.add_zero]
      exact H0 x hx g
    · exact hw x hx g
  refine ⟨w, ?_, all⟩
  obtain ⟨x, hx, x1, x2⟩ := hup
  have := all x hx
  rw [x1, x2] at this
  omega
end SH
/-! the point with another value of v -/
theorem gv_tw {p v w : Nat} (hp : p < 4096) (hv : v < 4) (h0 : gv p v = 0) (hw : w < 8) : gv (p + gtw v w) v = w ∧ ∀ i, i < 4 → i ≠ v → gv (p + gtw v w) i = gv p i := by
  rcases (show v = 0 ∨ v = 1 ∨ v = 2 ∨ v = 3 by omega) with rfl | rfl | rfl | rfl
  · rw [show gtw 0 w = w * 512 from rfl]
    rw [gv0] at h0 ⊢
    refine ⟨by omega, fun i hi hne => ?_⟩
    rcases (show i = 1 ∨ i = 2 ∨ i = 3 by omega) with rfl | rfl | rfl
    · rw [gv1, gv1]; omega
    · rw [gv2, gv2]; omega
    · rw [gv3, gv3]; omega
  · rw [show gtw 1 w = w * 64 from rfl]
    rw [gv1] at h0 ⊢
    refine ⟨by omega, fun i hi hne => ?_⟩
    rcases (show i = 0 ∨ i = 2 ∨ i = 3 by omega) with rfl | rfl | rfl
    · rw [gv0, gv0]; omega
    · rw [gv2, gv2]; omega
    · rw [gv3, gv3]; omega
  · rw [show gtw 2 w = w * 8 from rfl]
    rw [gv2] at h0 ⊢
    refine ⟨by omega, fun i hi hne => ?_⟩
    rcases (show i = 0 ∨ i = 1 ∨ i = 3 by omega) with rfl | rfl | rfl
    · rw [gv0, gv0]; omega
    · rw [gv1, gv1]; omega
    · rw [gv3, gv3]; omega
  · rw [show gtw 3 w = w * 1 from rfl, Nat.mul_one]
    rw [gv3] at h0 ⊢
    refine ⟨by omega, fun i hi hne => ?_⟩
    rcases (show i = 0 ∨ i = 1 ∨ i = 2 by omega) with rfl | rfl | rfl
    · rw [gv0, gv0]; omega
    · rw [gv1, gv1]; omega
    · rw [gv2, gv2]; omega
theorem isum_tw {x : Nat → Int32} {p v w : Nat} (hp : p < 4096) (hv : v < 4) (h0 : gv p v = 0) (hw : w < 8) : isum x (p + gtw v w) = isum x p + (x v).toInt * (w : Int) := by
  obtain ⟨a, b⟩ := gv_tw hp hv h0 hw
  unfold isum
  rcases (show v = 0 ∨ v = 1 ∨ v = 2 ∨ v = 3 by omega) with rfl | rfl | rfl | rfl
  · rw [a, b 1 (by decide) (by decide), b 2 (by decide) (by decide), b 3 (by decide) (by decide), h0]
    simp only [Int.natCast_zero, Int.mul_zero]
    omega
  · rw [a, b 0 (by decide) (by decide), b 2 (by decide) (by decide), b 3 (by decide) (by decide), h0]
    simp only [Int.natCast_zero, Int.mul_zero]
    omega
  · rw [a, b 0 (by decide) (by decide), b 1 (by decide) (by decide), b 3 (by decide) (by decide), h0]
    simp only [Int.natCast_zero, Int.mul_zero]
    omega
  · rw [a, b 0 (by decide) (by decide), b 1 (by decide) (by decide), b 2 (by decide) (by decide), h0]
    simp only [Int.natCast_zero, Int.mul_zero]
    omega
theorem gany_iff {b : Nat → Bool} {N : Nat} : gany b N = true ↔ ∃ k, k < N ∧ b k = true := by
  induction N with
  | zero => exact ⟨fun h => absurd (show (false : Bool) = true from h) (by decide), fun ⟨k, hk, _⟩ => absurd hk (Nat.not_lt_zero k)⟩
  | succ N ih =>
    rw [gany_s, ih]
    constructor
    · rintro (⟨k, a, b⟩ | h)
      · exact ⟨k, by omega, b⟩
      · exact ⟨N, by omega, h⟩
    · rintro ⟨k, a, b⟩
      by_cases e : k = N
      · rw [← e]; exact Or.inr b
      · exact Or.inl ⟨k, by omega, b⟩
theorem isum_bnd {v p : Nat} (hv : v < 4) (f rest : Int32) : isum (gbnd v f rest) p = f.toInt * (gv p v : Int) + rest.toInt := by
  have z0 : (0 : Int32).toInt = 0 := rfl
  unfold isum gbnd
  rcases (show v = 0 ∨ v = 1 ∨ v = 2 ∨ v = 3 by omega) with rfl | rfl | rfl | rfl
  · simp only [if_true, z0, Int.zero_mul]; simp [z0]
  · simp only [if_true, z0, Int.zero_mul]; simp [z0]
  · simp only [if_true, z0, Int.zero_mul]; simp [z0]
  · simp only [if_true, z0, Int.zero_mul]; simp [z0]
section SQ
variable {n mo v : Nat} {C : Nat → Nat → Int32}
theorem mem_lo : gbnd v 1 0 ∈ gsrc C n v mo := by
  unfold gsrc
  exact List.mem_append_left _ (List.mem_append_right _ (List.mem_singleton.mpr rfl))
theorem mem_up : gbnd v (-1) (nI mo) ∈ gsrc C n v mo := by
  unfold gsrc
  exact List.mem_append_right _ (List.mem_singleton.mpr rfl)
theorem gbnd_v (f rest : Int32) : gbnd v f rest v = f := if_pos rfl
/-- dark: true -/
theorem gdark_true {p : Nat} (hv : v < 4) (hmo : mo ≤ 7) (hS : gsm (gsrc C n v mo)) (hp : p < 4096) (h0 : gv p v = 0) (h : gin (gshd (gsrc C n v mo) v true) p = true) : gtrue (gsrc C n v mo) mo v p = true := by
  have o1 : (1 : Int32).toInt = 1 := rfl
  have om : (-1 : Int32).toInt = -1 := rfl
  have z0 : (0 : Int32).toInt = 0 := rfl
  rw [gin_mem (gshd_B hv hS true)] at h
  obtain ⟨w, hw, hall⟩ := gdark_room (p := p) (mo := mo) hv hS ⟨_, mem_lo, by rw [gbnd_v]; rfl, by rw [isum_bnd hv, h0, o1, z0]; rfl⟩ ⟨_, mem_up, by rw [gbnd_v]; rfl, by rw [isum_bnd hv, h0, om, nI_toInt (by omega)]; omega⟩ h
  unfold gtrue
  rw [gany_iff]
  refine ⟨w, by omega, ?_⟩
  unfold gtb
  rw [gin_mem (gsm_B hS)]
  intro x hx
  rw [isum_tw hp hv h0 (by omega)]
  exact hall x hx
theorem shd_v {dark : Bool} {x : Nat → Int32} (hv : v < 4) (hS : gsm (gsrc C n v mo)) (hx : x ∈ gshd (gsrc C n v mo) v dark) : (x v) = 0 := by
  have red0 : ∀ y : Nat → Int32, y v = 0 → gred y v = 0 := fun y hy => by
    unfold gred
    by_cases e : ggc y 4 = 0
    · rw [if_pos e]; exact hy
    · rw [if_neg e, hy]
      unfold gfl
      rw [show (0 : Int32).toInt = 0 from rfl, Int.zero_ediv]
      rfl
  rcases mem_shd.mp hx with ⟨r, hr, e, rfl⟩ | ⟨l, u, hl, hu, -, -, rfl⟩
  · exact red0 _ e
  · refine red0 _ ?_
    unfold gpr
    rw [if_neg (by omega)]
    rw [Int32.mul_comm (sr _ u v), Int32.mul_neg, Int32.add_comm, ← Int32.sub_eq_add_neg, Int32.sub_self]
/-- true: real -/
theorem gtrue_real {p : Nat} (hv : v < 4) (hmo : mo ≤ 7) (hS : gsm (gsrc C n v mo)) (hp : p < 4096) (h0 : gv p v = 0) (h : gtrue (gsrc C n v mo) mo v p = true) : gin (gshd (gsrc C n v mo) v false) p = true := by
  unfold gtrue at h
  rw [gany_iff] at h
  obtain ⟨w, hw, h⟩ := h
  unfold gtb at h
  rw [gin_mem (gsm_B hS)] at h
  rw [gin_mem (gshd_B hv hS false)]
  intro y hy
  have := gshd_real hv hS h y hy
  rw [isum_tw hp hv h0 (by omega), shd_v hv hS hy, show (0 : Int32).toInt = 0 from rfl, Int.zero_mul, Int.add_zero] at this
  exact this
end SQ
