/-! rows, as lists -/
def sr (S : List (Nat → Int32)) (r : Nat) : Nat → Int32 := S.getD r (fun _ => 0)
theorem sr_l {S T : List (Nat → Int32)} {r : Nat} (h : r < S.length) : sr (S ++ T) r = sr S r := by
  unfold sr
  rw [List.getD_eq_getElem?_getD, List.getD_eq_getElem?_getD, List.getElem?_append_left h]
theorem sr_at (S : List (Nat → Int32)) (x : Nat → Int32) : sr (S ++ [x]) S.length = x := by
  unfold sr
  rw [List.getD_eq_getElem?_getD, List.getElem?_concat_length]
  rfl
theorem sr_mem {S : List (Nat → Int32)} {r : Nat} (h : r < S.length) : sr S r ∈ S := by
  unfold sr
  rw [List.getD_eq_getElem?_getD, List.getElem?_eq_getElem h]
  exact List.getElem_mem h
def gRw (S : List (Nat → Int32)) (a : Nat → Int32) : Prop := ∀ r, r < S.length → ∀ j, j < 5 → a (5 * r + j) = sr S r j
theorem gRw_nil (a : Nat → Int32) : gRw [] a := fun r hr => absurd hr (Nat.not_lt_zero r)
theorem gLen (S : List (Nat → Int32)) (x : Nat → Int32) : (S ++ [x]).length = S.length + 1 := by
  rw [List.length_append]
  rfl
theorem gRw_app {S : List (Nat → Int32)} {a a' x : Nat → Int32} (h : gRw S a) (h1 : ∀ q, q < 5 * S.length → a' q = a q) (h2 : ∀ j, j < 5 → a' (5 * S.length + j) = x j) : gRw (S ++ [x]) a' := by
  intro r hr j hj
  rw [gLen] at hr
  by_cases e : r = S.length
  · subst e
    rw [sr_at, h2 j hj]
  · rw [sr_l (by omega), h1 _ (by omega)]
    exact h r (by omega) j hj
theorem s_X4_putTold {nt k : Nat} {t : Int32} {S : List (Nat → Int32)} {c cells x : Nat → Int32} {Q : Int32 → (Nat → Int32) → Prop} (hS : gRw S c) (hm : 5 * S.length + 5 ≤ nt) (hnt : nt < 1000) (hk : k < 8) (hx : ∀ j, j < 5 → x j = t * cells (6 * k + j)) (hQ : ∀ c', gRw (S ++ [x]) c' → Q (nI (S ++ [x]).length) c') : p_X4_putTold nt (nI S.length) c cells (nI k) t Q := by
  unfold p_X4_putTold
  refine gi2_inv 5 (fun i a e => a = nI i ∧ (∀ j, j < i → e (5 * S.length + j) = x j) ∧ ∀ q, q < 5 * S.length → e q = c q) ?_ ?_ ⟨rfl, fun j hj => absurd hj (Nat.not_lt_zero j), fun _ _ => rfl⟩
  · rintro i hi X a e ⟨rfl, e1, e2⟩ hX
    unfold p_X4_putTold_3 p_X9_cell
    refine ⟨fun g => ?_, fun _ => ⟨gx_in _ (gx_6 k i) (by omega) (by decide), gx_in _ (gx_5 _ i) (by omega) (by omega), ?_⟩⟩
    · rw [gl_5, nI_leI (by decide) (by omega)] at g; omega
    · rw [gx_cl _ (gx_6 k i) (by omega), gx_cl _ (gx_5 _ i) (by omega)]
      refine hX _ _ ⟨by rw [gl_1, nI_add], fun j hj => ?_, fun q hq => ?_⟩
      · by_cases ej : j = i
        · subst ej; rw [pk_us, hx j hi]
        · rw [pk_un (by omega)]; exact e1 j (by omega)
      · rw [pk_un (by omega)]; exact e2 q hq
  · rintro X a e ⟨rfl, e1, e2⟩
    unfold p_X4_putTold_3
    have en : nI S.length + (1 : Int32) = nI (S ++ [x]).length := by rw [gLen]; exact nI_add _ 1
    rw [en]
    exact ⟨fun _ => hQ e (gRw_app hS e2 e1), fun g => absurd (by decide) g⟩
def gbnd (v : Nat) (f rest : Int32) : Nat → Int32 := fun j => if j = v then f else if j = 4 then rest else 0
theorem s_X4_putBound {nt v : Nat} {f rest : Int32} {S : List (Nat → Int32)} {c : Nat → Int32} {Q : Int32 → (Nat → Int32) → Prop} (hS : gRw S c) (hm : 5 * S.length + 5 ≤ nt) (hnt : nt < 1000) (hv : v < 4) (hQ : ∀ c', gRw (S ++ [gbnd v f rest]) c' → Q (nI (S ++ [gbnd v f rest]).length) c') : p_X4_putBound nt (nI S.length) c (nI v) f rest Q := by
  unfold p_X4_putBound
  refine gi2_inv 4 (fun i a e => a = nI i ∧ (∀ j, j < i → e (5 * S.length + j) = gbnd v f rest j) ∧ ∀ q, q < 5 * S.length → e q = c q) ?_ ?_ ⟨rfl, fun j hj => absurd hj (Nat.not_lt_zero j), fun _ _ => rfl⟩
  · rintro i hi X a e ⟨rfl, e1, e2⟩ hX
    unfold p_X4_putBound_3 p_X4_putBound_33
    refine ⟨fun g => ?_, fun _ => ?_⟩
    · rw [gl_4, nI_leI (by decide) (by omega)] at g; omega
    · rw [nI_eq (by omega) (by omega), gx_cl _ (gx_5 _ i) (by omega)]
      have fin : ∀ w : Int32, w = gbnd v f rest i → X (nI i + 1) (upd e (5 * S.length + i) w) := by
        intro w hw
        refine hX _ _ ⟨by rw [gl_1, nI_add], fun j hj => ?_, fun q hq => ?_⟩
        · by_cases ej : j = i
          · subst ej; rw [pk_us, hw]
          · rw [pk_un (by omega)]; exact e1 j (by omega)
        · rw [pk_un (by omega)]; exact e2 q hq
      refine ⟨fun g => ⟨gx_in _ (gx_5 _ i) (by omega) (by omega), fin _ (if_pos g).symm⟩, fun g => ⟨gx_in _ (gx_5 _ i) (by omega) (by omega), fin _ ?_⟩⟩
      unfold gbnd
      rw [if_neg g, if_neg (by omega)]
  · rintro X a e ⟨rfl, e1, e2⟩
    unfold p_X4_putBound_3
    have en : nI S.length + (1 : Int32) = nI (S ++ [gbnd v f rest]).length := by rw [gLen]; exact nI_add _ 1
    have e4 : nI S.length * (5 : Int32) + (4 : Int32) = nI (5 * S.length + 4) := gx_5 _ 4
    rw [en, gx_cl _ e4 (by omega)]
    refine ⟨fun _ => ⟨gx_in _ e4 (by omega) (by omega), hQ _ (gRw_app hS (fun q hq => by rw [pk_un (by omega)]; exact e2 q hq) (fun j hj => ?_))⟩, fun g => absurd (by decide) g⟩
    by_cases ej : j = 4
    · subst ej
      rw [pk_us]
      unfold gbnd
      rw [if_neg (by omega), if_pos rfl]
    · rw [pk_un (by omega)]
      exact e1 j (by omega)
def gsa (C : Nat → Nat → Int32) (k : Nat) : List (Nat → Int32) := if C k 5 = 0 ∨ C k 5 = 2 then [fun j => 1 * C k j] else []
def gsb (C : Nat → Nat → Int32) (k : Nat) : List (Nat → Int32) := if C k 5 = 1 ∨ C k 5 = 2 then [fun j => -1 * C k j] else []
def gsr (C : Nat → Nat → Int32) : Nat → List (Nat → Int32)
  | 0 => []
  | k + 1 => gsr C k ++ gsa C k ++ gsb C k
def gsrc (C : Nat → Nat → Int32) (n v mo : Nat) : List (Nat → Int32) := gsr C n ++ [gbnd v 1 0] ++ [gbnd v (-1) (nI mo)]
theorem gsa_len (C : Nat → Nat → Int32) (k : Nat) : (gsa C k).length ≤ 1 := by
  unfold gsa
  split
  · exact Nat.le_refl _
  · exact Nat.zero_le _
theorem gsb_len (C : Nat → Nat → Int32) (k : Nat) : (gsb C k).length ≤ 1 := by
  unfold gsb
  split
  · exact Nat.le_refl _
  · exact Nat.zero_le _
theorem gsr_len (C : Nat → Nat → Int32) : ∀ k, (gsr C k).length ≤ 2 * k := by
  intro k
  induction k with
  | zero => exact Nat.le_refl _
  | succ k ih =>
    show (gsr C k ++ gsa C k ++ gsb C k).length ≤ 2 * (k + 1)
    rw [List.length_append, List.length_append]
    have := gsa_len C k
    have := gsb_len C k
    omega
theorem gsrc_len (C : Nat → Nat → Int32) {n : Nat} (v mo : Nat) (hn : n ≤ 8) : (gsrc C n v mo).length ≤ 18 := by
  unfold gsrc
  rw [gLen, gLen]
  have := gsr_len C n
  omega
theorem s_X6_gatherRows {C : Nat → Nat → Int32} {n v mo : Nat} {sz : Int32} {c cells : Nat → Int32} {Q : Int32 → (Nat → Int32) → Prop} (hn : n ≤ 8) (hv : v < 4) (hC : ∀ k, k < n → ∀ j, j < 6 → C k j = cells (6 * k + j)) (hQ : ∀ c', gRw (gsrc C n v mo) c' → Q (nI (gsrc C n v mo).length) c') : p_X6_gatherRows 90 sz c (nI n) (nI mo) cells (nI v) Q := by
  unfold p_X6_gatherRows
  refine gi3_inv n (fun i a b e => a = nI i ∧ b = nI (gsr C i).length ∧ gRw (gsr C i) e) ?_ ?_ ⟨rfl, rfl, gRw_nil _⟩
  · rintro i hi X a b e ⟨rfl, rfl, he⟩ hX
    have hl := gsr_len C i
    have hla := gsa_len C i
    have ha : gsa C i = if C i 5 = 0 ∨ C i 5 = 2 then [fun j => 1 * C i j] else [] := rfl
    have hb : gsb C i = if C i 5 = 1 ∨ C i 5 = 2 then [fun j => -1 * C i j] else [] := rfl
    have hs : gsr C (i + 1) = gsr C i ++ gsa C i ++ gsb C i := rfl
    have en : nI i + (1 : Int32) = nI (i + 1) := nI_add i 1
    have d01 : ¬ ((0 : Int32) = 1 ∨ (0 : Int32) = 2) := by decide
    have h69 : ∀ (T : List (Nat → Int32)) (c1 : Nat → Int32), T = gsr C (i + 1) → gRw T c1 → p_X6_gatherRows_69 (nI T.length) c1 (nI i) X := by
      intro T c1 hT h1
      unfold p_X6_gatherRows_69
      rw [en]
      subst hT
      exact hX _ _ _ ⟨rfl, rfl, h1⟩
    have h47 : ∀ (T : List (Nat → Int32)) (c1 : Nat → Int32), T = gsr C i ++ gsa C i → gRw T c1 → p_X6_gatherRows_47 90 (nI T.length) c1 cells (nI i) (C i 5) X := by
      intro T c1 hT h1
      have hTl : T.length ≤ 2 * i + 1 := by rw [hT, List.length_append]; omega
      have put : (C i 5 = 1 ∨ C i 5 = 2) → p_X6_gatherRows_59 90 (nI T.length) c1 cells (nI i) X := by
        intro z
        unfold p_X6_gatherRows_59
        refine s_X4_putTold (x := fun j => -1 * C i j) h1 (by omega) (by decide) (by omega) (fun j hj => by show -1 * C i j = _; rw [hC i hi j (by omega)]) (fun c2 h2 => h69 _ c2 ?_ h2)
        rw [hs, hb, if_pos z, hT]
      unfold p_X6_gatherRows_47
      refine ⟨fun z => put (Or.inl z), fun z1 => ⟨fun z => put (Or.inr z), fun z2 => h69 T c1 ?_ h1⟩⟩
      rw [hs, hb, if_neg (fun z => z.elim z1 z2), hT, List.append_nil]
    have put1 : (C i 5 = 0 ∨ C i 5 = 2) → p_X6_gatherRows_37 90 (nI (gsr C i).length) e cells (nI i) (C i 5) X := by
      intro z
      unfold p_X6_gatherRows_37
      refine s_X4_putTold (x := fun j => 1 * C i j) he (by omega) (by decide) (by omega) (fun j hj => by show 1 * C i j = _; rw [hC i hi j (by omega)]) (fun c2 h2 => h47 _ c2 ?_ h2)
      rw [ha, if_pos z]
    unfold p_X6_gatherRows_10 p_X9_cell
    refine ⟨fun g => ?_, fun _ => ⟨gx_in _ (gx_6 i 5) (by omega) (by decide), ?_⟩⟩
    · rw [nI_leI (by omega) (by omega)] at g; omega
    · have e5 : (nI i * (6 : Int32) + (5 : Int32)).toNatClampNeg = 6 * i + 5 := gx_cl _ (gx_6 i 5) (by omega)
      rw [e5, ← hC i hi 5 (by decide)]
      refine ⟨fun z => put1 (Or.inl z), fun z0 => ⟨fun z => put1 (Or.inr z), fun z2 => h47 _ e ?_ he⟩⟩
      rw [ha, if_neg (fun z => z.elim z0 z2), List.append_nil]
  · rintro X a b e ⟨rfl, rfl, he⟩
    have hl := gsr_len C n
    unfold p_X6_gatherRows_10
    refine ⟨fun _ => s_X4_putBound he (by omega) (by decide) hv (fun c1 h1 => s_X4_putBound h1 (by rw [gLen]; omega) (by decide) hv (fun c2 h2 => hQ c2 h2)), fun g => absurd (by rw [nI_leI (by omega) (by omega)]; exact Nat.le_refl _) g⟩
/-! small numbers -/
def gB (x : Int32) (b : Nat) : Prop := x.toInt.natAbs ≤ b
theorem gB_mul {x y : Int32} {a b : Nat} (hx : gB x a) (hy : gB y b) (h : a * b < 2 ^ 30) : gB (x * y) (a * b) := by
  unfold gB at *
  have h1 : (x.toInt * y.toInt).natAbs ≤ a * b := by
    rw [Int.natAbs_mul]
    exact Nat.mul_le_mul hx hy
  rw [Int32.toInt_mul, gm_bm (by omega) (by omega)]
  exact h1
theorem gB_add {x y : Int32} {a b : Nat} (hx : gB x a) (hy : gB y b) (h : a + b < 2 ^ 30) : gB (x + y) (a + b) := by
  unfold gB at *
  rw [Int32.toInt_add, gm_bm (by omega) (by omega)]
  omega
theorem gB_sub {x y : Int32} {a b : Nat} (hx : gB x a) (hy : gB y b) (h : a + b < 2 ^ 30) : gB (x - y) (a + b) := by
  unfold gB at *
  rw [Int32.toInt_sub, gm_bm (by omega) (by omega)]
  omega
theorem gB_neg {x : Int32} {a : Nat} (hx : gB x a) (h : a < 2 ^ 30) : gB (-x) a := by
  unfold gB at *
  rw [Int32.toInt_neg, gm_bm (by omega) (by omega)]
  omega
def gsm (S : List (Nat → Int32)) : Prop := ∀ x ∈ S, ∀ j, j < 5 → gB (x j) 99
theorem gsm_sr {S : List (Nat → Int32)} (h : gsm S) {r : Nat} (hr : r < S.length) {j : Nat} (hj : j < 5) : gB (sr S r j) 99 := h _ (sr_mem hr) j hj
theorem gsm_app {S T : List (Nat → Int32)} (h1 : gsm S) (h2 : gsm T) : gsm (S ++ T) := by
  intro x hx
  rcases List.mem_append.mp hx with z | z
  · exact h1 x z
  · exact h2 x z
theorem gsm_one {x : Nat → Int32} (h : ∀ j, j < 5 → gB (x j) 99) : gsm [x] := by
  intro y hy
  rw [List.mem_singleton] at hy
  subst hy
  exact h
theorem gsm_nil : gsm [] := fun x hx => absurd hx List.not_mem_nil
theorem gsm_src {C : Nat → Nat → Int32} {n v mo : Nat} (hmo : mo ≤ 7) (h : ∀ k, k < n → ∀ j, j < 5 → gB (C k j) 99) : gsm (gsrc C n v mo) := by
  have h1 : ∀ k, k ≤ n → gsm (gsr C k) := by
    intro k
    induction k with
    | zero => intro _; exact gsm_nil
    | succ k ih =>
      intro hk
      show gsm (gsr C k ++ gsa C k ++ gsb C k)
      refine gsm_app (gsm_app (ih (by omega)) ?_) ?_
      · unfold gsa
        split
        · refine gsm_one (fun j hj => ?_)
          have := h k (by omega) j hj
          show gB (1 * C k j) 99
          rw [Int32.one_mul]
          exact this
        · exact gsm_nil
      · unfold gsb
        split
        · refine gsm_one (fun j hj => ?_)
          have := gB_mul (x := -1) (a := 1) (b := 99) (by unfold gB; decide) (h k (by omega) j hj) (by decide)
          exact this
        · exact gsm_nil
  unfold gsrc
  refine gsm_app (gsm_app (h1 n (Nat.le_refl _)) (gsm_one (fun j _ => ?_))) (gsm_one (fun j _ => ?_))
  · unfold gbnd
    split
    · unfold gB; decide
    · split <;> (unfold gB; decide)
  · unfold gbnd
    split
    · unfold gB; decide
    · split
      · unfold gB
        rw [nI_toInt (by omega)]
        omega
      · unfold gB; decide
/-! shadows, as lists -/
def gpr (lo up : Nat → Int32) (v : Nat) (dark : Bool) : Nat → Int32 := fun j => if j = 4 then lo j * (-(up v)) + up j * lo v - (if dark = true then (lo v - 1) * (-(up v) - 1) else 0) else lo j * (-(up v)) + up j * lo v
theorem gpr_bd {lo up : Nat → Int32} {v : Nat} {dark : Bool} (hv : v < 5) (h1 : ∀ j, j < 5 → gB (lo j) 99) (h2 : ∀ j, j < 5 → gB (up j) 99) : ∀ j, j < 5 → (gpr lo up v dark j).toInt.natAbs < 2 ^ 30 := by
  intro j hj
  have a1 := gB_add (gB_mul (h1 j hj) (gB_neg (h2 v hv) (by decide)) (by decide)) (gB_mul (h2 j hj) (h1 v hv) (by decide)) (by decide)
  have one : gB (1 : Int32) 1 := by unfold gB; decide
  have a2 := gB_mul (gB_sub (h1 v hv) one (by decide)) (gB_sub (gB_neg (h2 v hv) (by decide)) one (by decide)) (by decide)
  unfold gpr
  split
  · split
    · have := gB_sub a1 a2 (by decide)
      unfold gB at this
      omega
    · have := gB_sub a1 (show gB (0 : Int32) 0 by unfold gB; decide) (by decide)
      unfold gB at this
      omega
  · unfold gB at a1
    omega
def gal (S : List (Nat → Int32)) (v : Nat) : Nat → List (Nat → Int32)
  | 0 => []
  | r + 1 => gal S v r ++ (if sr S r v = 0 then [gred (sr S r)] else [])
def gpi (S : List (Nat → Int32)) (v : Nat) (dark : Bool) (lo : Nat) : Nat → List (Nat → Int32)
  | 0 => []
  | u + 1 => gpi S v dark lo u ++ (if 0 < sr S lo v ∧ sr S u v < 0 then [gred (gpr (sr S lo) (sr S u) v dark)] else [])
def gpo (S : List (Nat → Int32)) (v : Nat) (dark : Bool) (N : Nat) : Nat → List (Nat → Int32)
  | 0 => []
  | l + 1 => gpo S v dark N l ++ gpi S v dark l N
def gshd (S : List (Nat → Int32)) (v : Nat) (dark : Bool) : List (Nat → Int32) := gal S v S.length ++ gpo S v dark S.length S.length
def cz (S : List (Nat → Int32)) (v : Nat) : Nat → Nat := gcnt (fun r => decide (sr S r v = 0))
def cl (S : List (Nat → Int32)) (v : Nat) : Nat → Nat := gcnt (fun r => decide (0 < sr S r v))
def cu (S : List (Nat → Int32)) (v : Nat) : Nat → Nat := gcnt (fun r => decide (sr S r v < 0))
theorem gm_tri (x : Int32) : (if decide (x = 0) = true then 1 else 0) + (if decide (0 < x) = true then 1 else 0) + (if decide (x < 0) = true then 1 else 0) = 1 := by
  have z0 : (0 : Int32).toInt = 0 := rfl
  simp only [decide_eq_true_eq, gm_z, Int32.lt_iff_toInt_lt, z0]
  split <;> split <;> split <;> omega
theorem c_all (S : List (Nat → Int32)) (v : Nat) : ∀ N, cz S v N + cl S v N + cu S v N = N := by
  intro N
  induction N with
  | zero => rfl
  | succ N ih =>
    have h := gm_tri (sr S N v)
    show (cz S v N + (if decide (sr S N v = 0) = true then 1 else 0)) + (cl S v N + (if decide (0 < sr S N v) = true then 1 else 0)) + (cu S v N + (if decide (sr S N v < 0) = true then 1 else 0)) = N + 1
    omega
theorem gal_len (S : List (Nat → Int32)) (v : Nat) : ∀ r, (gal S v r).length = cz S v r := by
  intro r
  induction r with
  | zero => rfl
  | succ r ih =>
    show (gal S v r ++ (if sr S r v = 0 then [gred (sr S r)] else [])).length = cz S v r + (if decide (sr S r v = 0) = true then 1 else 0)
    rw [List.length_append, ih]
    by_cases h : sr S r v = 0
    · rw [if_pos h, if_pos (decide_eq_true h)]; rfl
    · rw [if_neg h, if_neg (by rw [decide_eq_true_eq]; exact h)]; rfl
theorem gpi_len (S : List (Nat → Int32)) (v : Nat) (dark : Bool) (lo : Nat) : ∀ u, (gpi S v dark lo u).length = if 0 < sr S lo v then cu S v u else 0 := by
  intro u
  induction u with
  | zero =>
    show 0 = if 0 < sr S lo v then 0 else 0
    split <;> rfl
  | succ u ih =>
    show (gpi S v dark lo u ++ (if 0 < sr S lo v ∧ sr S u v < 0 then [gred (gpr (sr S lo) (sr S u) v dark)] else [])).length = if 0 < sr S lo v then cu S v u + (if decide (sr S u v < 0) = true then 1 else 0) else 0
    rw [List.length_append, ih]
    by_cases h : 0 < sr S lo v
    · rw [if_pos h, if_pos h]
      by_cases h2 : sr S u v < 0
      · rw [if_pos ⟨h, h2⟩, if_pos (decide_eq_true h2)]; rfl
      · rw [if_neg (fun z => h2 z.2), if_neg (by rw [decide_eq_true_eq]; exact h2)]; rfl
    · rw [if_neg h, if_neg h, if_neg (fun z => h z.1)]; rfl
theorem gpo_len (S : List (Nat → Int32)) (v : Nat) (dark : Bool) (N : Nat) : ∀ l, (gpo S v dark N l).length = cl S v l * cu S v N := by
  intro l
  induction l with
  | zero => exact (Nat.zero_mul _).symm
  | succ l ih =>
    show (gpo S v dark N l ++ gpi S v dark l N).length = (cl S v l + (if decide (0 < sr S l v) = true then 1 else 0)) * cu S v N
    rw [List.length_append, ih, gpi_len, Nat.add_mul]
    by_cases h : 0 < sr S l v
    · rw [if_pos h, if_pos (decide_eq_true h), Nat.one_mul]
    · rw [if_neg h, if_neg (by rw [decide_eq_true_eq]; exact h), Nat.zero_mul]
theorem g81d : ∀ l, l < 19 → ∀ u, u < 19 → l + u ≤ 18 → 18 - (l + u) + l * u ≤ 81 := by decide +kernel
/-- room for one more pair -/
theorem g81 {S : List (Nat → Int32)} {v lo up : Nat} {dark : Bool} (hN : S.length ≤ 18) (hlo : lo < S.length) (hup : up < S.length) (h1 : 0 < sr S lo v) (h2 : sr S up v < 0) : (gal S v S.length ++ gpo S v dark S.length lo ++ gpi S v dark lo up).length + 1 ≤ 81 := by
  rw [List.length_append, List.length_append, gal_len, gpo_len, gpi_len, if_pos h1]
  have a1 := c_all S v S.length
  have a2 : cl S v lo < cl S v S.length := gcnt_lt _ hlo (decide_eq_true h1)
  have a3 : cu S v up < cu S v S.length := gcnt_lt _ hup (decide_eq_true h2)
  have a4 : (cl S v lo + 1) * cu S v S.length ≤ cl S v S.length * cu S v S.length := Nat.mul_le_mul_right _ a2
  rw [Nat.add_mul, Nat.one_mul] at a4
  have a5 := g81d (cl S v S.length) (by omega) (cu S v S.length) (by omega) (by omega)
  omega
theorem gshd_len {S : List (Nat → Int32)} {v : Nat} {dark : Bool} (hN : S.length ≤ 18) : (gshd S v dark).length ≤ 81 := by
  unfold gshd
  rw [List.length_append, gal_len, gpo_len]
  have a1 := c_all S v S.length
  have a5 := g81d (cl S v S.length) (by omega) (cu S v S.length) (by omega) (by omega)
  omega
