/-! shadows: the class -/
theorem s_X4_cell {nt : Nat} {S : List (Nat → Int32)} {c : Nat → Int32} {r j : Nat} {Q : Int32 → Prop} (hS : gRw S c) (hr : r < S.length) (hj : j < 5) (hm : 5 * S.length ≤ nt) (hnt : nt < 1000) (hQ : Q (sr S r j)) : p_X4_cell nt c (nI r) (nI j) Q := by
  unfold p_X4_cell
  refine ⟨gx_in _ (gx_5 r j) (by omega) (by omega), ?_⟩
  rw [gx_cl _ (gx_5 r j) (by omega), hS r hr j hj]
  exact hQ
theorem gRw_len {S : List (Nat → Int32)} (x : Nat → Int32) : nI S.length + (1 : Int32) = nI (S ++ [x]).length := by rw [gLen]; exact nI_add _ 1
theorem s_X4_putAlike {T S : List (Nat → Int32)} {c sc : Nat → Int32} {r : Nat} {Q : Int32 → (Nat → Int32) → Prop} (hT : gRw T c) (hS : gRw S sc) (hr : r < S.length) (hN : S.length ≤ 18) (hl : T.length + 1 ≤ 81) (hsm : gsm S) (hQ : ∀ c', gRw (T ++ [gred (sr S r)]) c' → Q (nI (T ++ [gred (sr S r)]).length) c') : p_X4_putAlike 405 90 (nI T.length) c sc (nI r) Q := by
  unfold p_X4_putAlike
  refine gi2_inv 5 (fun i a e => a = nI i ∧ (∀ j, j < i → e (5 * T.length + j) = sr S r j) ∧ ∀ q, q < 5 * T.length → e q = c q) ?_ ?_ ⟨rfl, fun j hj => absurd hj (Nat.not_lt_zero j), fun _ _ => rfl⟩
  · rintro i hi X a e ⟨rfl, e1, e2⟩ hX
    unfold p_X4_putAlike_2
    refine ⟨fun g => ?_, fun _ => s_X4_cell hS hr hi (by omega) (by decide) ⟨gx_in _ (gx_5 _ i) (by omega) (by decide), ?_⟩⟩
    · rw [gl_5, nI_leI (by decide) (by omega)] at g; omega
    · rw [gx_cl _ (gx_5 _ i) (by omega)]
      refine hX _ _ ⟨by rw [gl_1, nI_add], fun j hj => ?_, fun q hq => ?_⟩
      · by_cases ej : j = i
        · subst ej; rw [pk_us]
        · rw [pk_un (by omega)]; exact e1 j (by omega)
      · rw [pk_un (by omega)]; exact e2 q hq
  · rintro X a e ⟨rfl, e1, e2⟩
    unfold p_X4_putAlike_2
    refine ⟨fun _ => ?_, fun g => absurd (by decide) g⟩
    rw [gRw_len (gred (sr S r))]
    have hb : ∀ j, j < 5 → (sr S r j).toInt.natAbs < 2 ^ 30 := fun j hj => by
      have := gsm_sr hsm hr hj
      unfold gB at this
      omega
    rw [gLen]
    refine s_X4_reduceLast (x := sr S r) (by omega) (by decide) e1 hb (fun c' c1 c2 => ?_)
    rw [← gLen T (gred (sr S r))]
    exact hQ c' (gRw_app hT (fun q hq => by rw [c2 q (by omega), e2 q hq]) c1)
theorem s_X4_putPair {T S : List (Nat → Int32)} {c sc : Nat → Int32} {lo up v : Nat} {dark : Bool} {xd : Int32} {Q : Int32 → (Nat → Int32) → Prop} (hT : gRw T c) (hS : gRw S sc) (hlo : lo < S.length) (hup : up < S.length) (hN : S.length ≤ 18) (hl : T.length + 1 ≤ 81) (hv : v < 4) (hsm : gsm S) (hd : xd = if dark = true then 1 else 0) (hQ : ∀ c', gRw (T ++ [gred (gpr (sr S lo) (sr S up) v dark)]) c' → Q (nI (T ++ [gred (gpr (sr S lo) (sr S up) v dark)]).length) c') : p_X4_putPair 405 90 (nI T.length) c sc (nI lo) (nI up) (nI v) xd Q := by
  unfold p_X4_putPair
  refine s_X4_cell hS hlo (by omega) (by omega) (by decide) (s_X4_cell hS hup (by omega) (by omega) (by decide) ?_)
  refine gi2_inv 5 (fun i a e => a = nI i ∧ (∀ j, j < i → e (5 * T.length + j) = sr S lo j * (-(sr S up v)) + sr S up j * sr S lo v) ∧ ∀ q, q < 5 * T.length → e q = c q) ?_ ?_ ⟨rfl, fun j hj => absurd hj (Nat.not_lt_zero j), fun _ _ => rfl⟩
  · rintro i hi X a e ⟨rfl, e1, e2⟩ hX
    unfold p_X4_putPair_22
    refine ⟨fun g => ?_, fun _ => s_X4_cell hS hlo hi (by omega) (by decide) (s_X4_cell hS hup hi (by omega) (by decide) ⟨gx_in _ (gx_5 _ i) (by omega) (by decide), ?_⟩)⟩
    · rw [gl_5, nI_leI (by decide) (by omega)] at g; omega
    · rw [gx_cl _ (gx_5 _ i) (by omega)]
      refine hX _ _ ⟨by rw [gl_1, nI_add], fun j hj => ?_, fun q hq => ?_⟩
      · by_cases ej : j = i
        · subst ej; rw [pk_us]
        · rw [pk_un (by omega)]; exact e1 j (by omega)
      · rw [pk_un (by omega)]; exact e2 q hq
  · rintro X a e ⟨rfl, e1, e2⟩
    unfold p_X4_putPair_22
    refine ⟨fun _ => ?_, fun g => absurd (by decide) g⟩
    have e4 : nI T.length * (5 : Int32) + (4 : Int32) = nI (5 * T.length + 4) := gx_5 _ 4
    have hb := gpr_bd (dark := dark) (show v < 5 by omega) (fun j hj => gsm_sr hsm hlo hj) (fun j hj => gsm_sr hsm hup hj)
    rw [gx_cl _ e4 (by omega), e1 4 (by decide)]
    have fin : ∀ s3 : Int32, s3 = (if dark = true then (sr S lo v - 1) * (-(sr S up v) - 1) else 0) → p_X4_putPair_101 405 (nI T.length) e (nI T.length * (5 : Int32) + (4 : Int32)) (sr S lo 4 * (-(sr S up v)) + sr S up 4 * sr S lo v) s3 Q := by
      intro s3 hs3
      unfold p_X4_putPair_101
      refine ⟨gx_in _ e4 (by omega) (by decide), ?_⟩
      rw [gx_cl _ e4 (by omega), gRw_len (gred (gpr (sr S lo) (sr S up) v dark)), gLen]
      refine s_X4_reduceLast (x := gpr (sr S lo) (sr S up) v dark) (by omega) (by decide) (fun j hj => ?_) hb (fun c' c1 c2 => ?_)
      · unfold gpr
        by_cases ej : j = 4
        · subst ej
          rw [pk_us, if_pos rfl, hs3]
        · rw [pk_un (by omega), if_neg ej]
          exact e1 j hj
      · rw [← gLen T (gred (gpr (sr S lo) (sr S up) v dark))]
        exact hQ c' (gRw_app hT (fun q hq => by rw [c2 q (by omega), pk_un (by omega), e2 q hq]) c1)
    refine ⟨gx_in _ e4 (by omega) (by decide), fun z => fin _ ?_, fun z => fin _ ?_⟩
    · by_cases hdk : dark = true
      · rw [hd, if_pos hdk] at z; exact absurd z (by decide)
      · rw [if_neg hdk]
    · by_cases hdk : dark = true
      · rw [if_pos hdk]
      · rw [hd, if_neg hdk] at z; exact absurd rfl z
theorem s_X6_castShadow {S : List (Nat → Int32)} {sc c : Nat → Int32} {sz xd : Int32} {v : Nat} {dark : Bool} {Q : Int32 → (Nat → Int32) → Prop} (hS : gRw S sc) (hN : S.length ≤ 18) (hsm : gsm S) (hv : v < 4) (hd : xd = if dark = true then 1 else 0) (hQ : ∀ c', gRw (gshd S v dark) c' → Q (nI (gshd S v dark).length) c') : p_X6_castShadow 90 405 (nI S.length) sc sz c (nI v) xd Q := by
  unfold p_X6_castShadow
  have hca := c_all S v S.length
  refine gi3_inv S.length (fun r a b e => a = nI r ∧ b = nI (gal S v r).length ∧ gRw (gal S v r) e) ?_ ?_ ⟨rfl, rfl, gRw_nil _⟩
  · rintro r hr X a b e ⟨rfl, rfl, he⟩ hX
    have hal := gal_len S v r
    have hle : cz S v r ≤ r := gcnt_le _ _
    have hs : gal S v (r + 1) = gal S v r ++ (if sr S r v = 0 then [gred (sr S r)] else []) := rfl
    have en : nI r + (1 : Int32) = nI (r + 1) := nI_add r 1
    unfold p_X6_castShadow_8 p_X6_castShadow_43
    rw [en]
    refine ⟨fun g => ?_, fun _ => s_X4_cell hS hr (by omega) (by omega) (by decide) ⟨fun z => ?_, fun z => ?_⟩⟩
    · rw [nI_leI (by omega) (by omega)] at g; omega
    · rw [if_pos z] at hs
      exact s_X4_putAlike he hS hr hN (by omega) hsm (fun c' h' => hX _ _ _ ⟨rfl, by rw [hs], by rw [hs]; exact h'⟩)
    · rw [if_neg z, List.append_nil] at hs
      exact hX _ _ _ ⟨rfl, by rw [hs], by rw [hs]; exact he⟩
  · rintro X a b e ⟨rfl, rfl, he⟩
    unfold p_X6_castShadow_8
    refine ⟨fun _ => ?_, fun g => absurd (by rw [nI_leI (by omega) (by omega)]; exact Nat.le_refl _) g⟩
    refine gi3_inv S.length (fun l a b e => a = nI l ∧ b = nI (gal S v S.length ++ gpo S v dark S.length l).length ∧ gRw (gal S v S.length ++ gpo S v dark S.length l) e) ?_ ?_ ⟨rfl, by rw [show gpo S v dark S.length 0 = [] from rfl, List.append_nil], by rw [show gpo S v dark S.length 0 = [] from rfl, List.append_nil]; exact he⟩
    · rintro l hl Y a b e ⟨rfl, rfl, he⟩ hY
      unfold p_X6_castShadow_52
      refine ⟨fun g => ?_, fun _ => ?_⟩
      · rw [nI_leI (by omega) (by omega)] at g; omega
      · refine gi3_inv S.length (fun u a b e => a = nI u ∧ b = nI (gal S v S.length ++ gpo S v dark S.length l ++ gpi S v dark l u).length ∧ gRw (gal S v S.length ++ gpo S v dark S.length l ++ gpi S v dark l u) e) ?_ ?_ ⟨rfl, by rw [show gpi S v dark l 0 = [] from rfl, List.append_nil], by rw [show gpi S v dark l 0 = [] from rfl, List.append_nil]; exact he⟩
        · rintro u hu Z a b e ⟨rfl, rfl, he⟩ hZ
          have hs : gpi S v dark l (u + 1) = gpi S v dark l u ++ (if 0 < sr S l v ∧ sr S u v < 0 then [gred (gpr (sr S l) (sr S u) v dark)] else []) := rfl
          have en : nI u + (1 : Int32) = nI (u + 1) := nI_add u 1
          have skip : ¬ (0 < sr S l v ∧ sr S u v < 0) → Z (nI (u + 1)) (nI (gal S v S.length ++ gpo S v dark S.length l ++ gpi S v dark l u).length) e := by
            intro z
            rw [if_neg z, List.append_nil] at hs
            exact hZ _ _ _ ⟨rfl, by rw [hs], by rw [hs]; exact he⟩
          unfold p_X6_castShadow_67 p_X6_castShadow_119
          rw [en]
          refine ⟨fun g => ?_, fun _ => s_X4_cell hS hl (by omega) (by omega) (by decide) ⟨fun z => skip (fun y => absurd z (Int32.not_le.mpr y.1)), fun z => s_X4_cell hS hu (by omega) (by omega) (by decide) ⟨fun z2 => skip (fun y => absurd z2 (Int32.not_le.mpr y.2)), fun z2 => ?_⟩⟩⟩
          · rw [nI_leI (by omega) (by omega)] at g; omega
          · have p1 := Int32.not_le.mp z
            have p2 := Int32.not_le.mp z2
            have p3 := g81 (dark := dark) hN hl hu p1 p2
            rw [if_pos ⟨p1, p2⟩, ] at hs
            refine s_X4_putPair he hS hl hu hN p3 hv hsm hd (fun c' h' => hZ _ _ _ ⟨rfl, ?_, ?_⟩)
            · rw [hs, ← List.append_assoc]
            · rw [hs, ← List.append_assoc]; exact h'
        · rintro Z a b e ⟨rfl, rfl, he⟩
          unfold p_X6_castShadow_67
          refine ⟨fun _ => hY _ _ _ ⟨nI_add l 1, ?_, ?_⟩, fun g => absurd (by rw [nI_leI (by omega) (by omega)]; exact Nat.le_refl _) g⟩
          · rw [show gpo S v dark S.length (l + 1) = gpo S v dark S.length l ++ gpi S v dark l S.length from rfl, ← List.append_assoc]
          · rw [show gpo S v dark S.length (l + 1) = gpo S v dark S.length l ++ gpi S v dark l S.length from rfl, ← List.append_assoc]
            exact he
    · rintro Y a b e ⟨rfl, rfl, he⟩
      unfold p_X6_castShadow_52
      exact ⟨fun _ => hQ e he, fun g => absurd (by rw [nI_leI (by omega) (by omega)]; exact Nat.le_refl _) g⟩
/-! what rows hold at a point -/
def gin (S : List (Nat → Int32)) (p : Nat) : Bool := gfit (fun r => decide (0 ≤ gsum (sr S r) p)) S.length
theorem gfit_no {b : Nat → Bool} {k : Nat} (h : ¬ gfit b k = true) : ∀ N, k ≤ N → ¬ gfit b N = true := by
  intro N
  induction N with
  | zero => intro hk; rw [Nat.le_zero.mp hk] at h; exact h
  | succ N ih =>
    intro hk z
    by_cases e : k = N + 1
    · rw [e] at h; exact h z
    · replace z : (gfit b N && b N) = true := z
      rw [Bool.and_eq_true] at z
      exact ih (by omega) z.1
theorem gfit_s {b : Nat → Bool} {k : Nat} : gfit b (k + 1) = true ↔ gfit b k = true ∧ b k = true := by
  show (gfit b k && b k) = true ↔ _
  rw [Bool.and_eq_true]
theorem s_X4_aF {nt : Nat} {S : List (Nat → Int32)} {c : Nat → Int32} {p : Nat} {Q : Int32 → Prop} (hS : gRw S c) (hm : 5 * S.length ≤ nt) (hnt : nt < 1000) (hp : p < 4096) (h1 : gin S p = true → Q 1) (h0 : ¬ gin S p = true → Q 0) : p_X4_areFulfilled nt (nI S.length) c (nI p) Q := by
  unfold p_X4_areFulfilled
  refine s_X3_valueOf (i := 0) hp (by decide) rfl (s_X3_valueOf (i := 1) hp (by decide) rfl (s_X3_valueOf (i := 2) hp (by decide) rfl (s_X3_valueOf (i := 3) hp (by decide) rfl ?_)))
  have el : nI S.length * (5 : Int32) = nI (5 * S.length) := by rw [gl_5, pk_mul, Nat.mul_comm]
  refine gi1_inv S.length (fun r a => a = nI (5 * r) ∧ gfit (fun r => decide (0 ≤ gsum (sr S r) p)) r = true) ?_ ?_ ⟨rfl, rfl⟩
  · rintro r hr X a ⟨rfl, ha⟩ hX
    unfold p_X4_areFulfilled_29
    rw [el]
    have e0 : nI (5 * r) = nI (5 * r + 0) := rfl
    have e1 : nI (5 * r) + (1 : Int32) = nI (5 * r + 1) := nI_add _ 1
    have e2 : nI (5 * r) + (2 : Int32) = nI (5 * r + 2) := nI_add _ 2
    have e3 : nI (5 * r) + (3 : Int32) = nI (5 * r + 3) := nI_add _ 3
    have e4 : nI (5 * r) + (4 : Int32) = nI (5 * r + 4) := nI_add _ 4
    have e5 : nI (5 * r) + (5 : Int32) = nI (5 * (r + 1)) := nI_add _ 5
    refine ⟨fun g => ?_, fun _ => ⟨gx_in _ e0 (by omega) (by omega), gx_in _ e1 (by omega) (by omega), gx_in _ e2 (by omega) (by omega), gx_in _ e3 (by omega) (by omega), gx_in _ e4 (by omega) (by omega), ?_⟩⟩
    · rw [nI_leI (by omega) (by omega)] at g; omega
    · rw [gx_cl _ e0 (by omega), gx_cl _ e1 (by omega), gx_cl _ e2 (by omega), gx_cl _ e3 (by omega), gx_cl _ e4 (by omega), hS r hr 0 (by decide), hS r hr 1 (by decide), hS r hr 2 (by decide), hS r hr 3 (by decide), hS r hr 4 (by decide), e5]
      refine ⟨fun g => hX _ ⟨rfl, gfit_s.mpr ⟨ha, decide_eq_true g⟩⟩, fun g => h0 (gfit_no (k := r + 1) (fun z => ?_) _ hr)⟩
      exact g (of_decide_eq_true (gfit_s.mp z).2)
  · rintro X a ⟨rfl, ha⟩
    unfold p_X4_areFulfilled_29
    rw [el]
    exact ⟨fun _ => h1 ha, fun g => absurd (by rw [nI_leI (by omega) (by omega)]; exact Nat.le_refl _) g⟩
theorem gor_add {p w k : Nat} (h : p / 2 ^ k % 8 = 0) (hw : w < 8) : p ||| w * 2 ^ k = p + w * 2 ^ k := by
  have hk : 0 < 2 ^ k := Nat.two_pow_pos k
  have d1 : 2 ^ k * (p / 2 ^ k) + p % 2 ^ k = p := Nat.div_add_mod p (2 ^ k)
  have l1 : p % 2 ^ k < 2 ^ k := Nat.mod_lt _ hk
  have d2 : p / 2 ^ k = 8 * (p / 2 ^ k / 8) := by omega
  have e8 : 2 ^ (k + 3) = 2 ^ k * 8 := Nat.pow_add 2 k 3
  revert d1 l1 d2 h
  generalize p / 2 ^ k = q
  generalize p % 2 ^ k = l
  intro h d1 l1 d2
  have w8 : 2 ^ k * w ≤ 2 ^ k * 7 := Nat.mul_le_mul_left _ (by omega)
  have a1 : 2 ^ (k + 3) * (q / 8) + l = p := by
    rw [e8, Nat.mul_assoc, ← d2]
    exact d1
  have b1 : 2 ^ (k + 3) * (q / 8) + l = 2 ^ (k + 3) * (q / 8) ||| l := Nat.two_pow_add_eq_or_of_lt (by omega) _
  have b2 : 2 ^ k * w + l = 2 ^ k * w ||| l := Nat.two_pow_add_eq_or_of_lt l1 _
  have b3 : 2 ^ (k + 3) * (q / 8) + (2 ^ k * w + l) = 2 ^ (k + 3) * (q / 8) ||| (2 ^ k * w + l) := Nat.two_pow_add_eq_or_of_lt (by omega) _
  have c : w * 2 ^ k = 2 ^ k * w := Nat.mul_comm _ _
  rw [← a1, c, b1, Nat.or_assoc, Nat.or_comm l, ← b2, ← b3, b2.symm.symm]
  omega
def gtw (i w : Nat) : Nat := w * 2 ^ (9 - 3 * i)
theorem gwv {p i w : Nat} (hp : p < 4096) (hi : i < 4) (h0 : gv p i = 0) (hw : w < 8) : nI w <<< (((9 : Int32) - ((3 : Int32) * nI i)) &&& 31) = nI (gtw i w) ∧ p ||| gtw i w = p + gtw i w ∧ p + gtw i w < 4096 := by
  unfold gv at h0
  unfold gtw
  rcases (show i = 0 ∨ i = 1 ∨ i = 2 ∨ i = 3 by omega) with rfl | rfl | rfl | rfl
  · replace h0 : p / 2 ^ 9 % 8 = 0 := h0
    exact ⟨pk_shlN _ 9 (by decide) (by omega), gor_add (k := 9) h0 hw, by show p + w * 2 ^ 9 < 4096; omega⟩
  · replace h0 : p / 2 ^ 6 % 8 = 0 := h0
    exact ⟨pk_shlN _ 6 (by decide) (by omega), gor_add (k := 6) h0 hw, by show p + w * 2 ^ 6 < 4096; omega⟩
  · replace h0 : p / 2 ^ 3 % 8 = 0 := h0
    exact ⟨pk_shlN _ 3 (by decide) (by omega), gor_add (k := 3) h0 hw, by show p + w * 2 ^ 3 < 4096; omega⟩
  · replace h0 : p / 2 ^ 0 % 8 = 0 := h0
    exact ⟨pk_shlN _ 0 (by decide) (by omega), gor_add (k := 0) h0 hw, by show p + w * 2 ^ 0 < 4096; omega⟩
def gany (b : Nat → Bool) : Nat → Bool
  | 0 => false
  | k + 1 => gany b k || b k
theorem gany_mono {b : Nat → Bool} {k : Nat} (h : gany b k = true) : ∀ N, k ≤ N → gany b N = true := by
  intro N
  induction N with
  | zero => intro hk; rw [Nat.le_zero.mp hk] at h; exact h
  | succ N ih =>
    intro hk
    by_cases e : k = N + 1
    · rw [e] at h; exact h
    · show (gany b N || b N) = true
      rw [ih (by omega), Bool.true_or]
theorem gany_s {b : Nat → Bool} {k : Nat} : gany b (k + 1) = true ↔ gany b k = true ∨ b k = true := by
  show (gany b k || b k) = true ↔ _
  rw [Bool.or_eq_true]
def gtb (S : List (Nat → Int32)) (i p w : Nat) : Bool := gin S (p + gtw i w)
def gtrue (S : List (Nat → Int32)) (mo i p : Nat) : Bool := gany (gtb S i p) (mo + 1)
theorem s_wv {x0 x1 x2 : Int32} {Q : Int32 → Prop} (h : Q (x0 ||| (x2 <<< (((9 : Int32) - ((3 : Int32) * x1)) &&& 31)))) : p_X3_withValue x0 x1 x2 Q := h
theorem s_X6_isTrue_3 {S : List (Nat → Int32)} {sc : Nat → Int32} {mo i p w : Nat} {Q K : Int32 → Prop} (hS : gRw S sc) (hN : S.length ≤ 18) (hmo : mo ≤ 7) (hi : i < 4) (hp : p < 4096) (h0 : gv p i = 0) (hw : w ≤ mo) (hQ1 : gtb S i p w = true → Q 1) (hK : ¬ gtb S i p w = true → K (nI (w + 1))) : p_X6_isTrue_3 90 (nI S.length) sc (nI mo) (nI i) (nI p) Q K (nI w) := by
  have h8 : w < 8 := by omega
  have h90 : 5 * S.length ≤ 90 := by omega
  have hno : ¬ nI mo < nI w := by
    rw [nI_ltI (by omega) (by omega)]
    omega
  have en : nI w + (1 : Int32) = nI (w + 1) := nI_add w 1
  have g := gwv hp hi h0 h8
  unfold gtb at hQ1 hK
  revert g hQ1 hK
  generalize gtw i w = t
  intro hQ1 hK g
  unfold p_X6_isTrue_3
  refine ⟨fun z => absurd z hno, fun _ => s_wv ?_⟩
  have key : ∀ (y : Int32) (q : Nat) (QQ : Int32 → Prop), q < 4096 → y = nI q → (gin S q = true → QQ 1) → (¬ gin S q = true → QQ 0) → p_X4_areFulfilled 90 (nI S.length) sc y QQ := by
    intro y q QQ hq hy h1 h2
    subst hy
    exact s_X4_aF hS h90 (by decide) hq h1 h2
  have ey : nI p ||| (nI w <<< (((9 : Int32) - ((3 : Int32) * nI i)) &&& 31)) = nI (p + t) := by
    have e1 := g.1
    have e2 := g.2.1
    have e3 := gm_orN p t
    exact (congrArg (fun x => nI p ||| x) e1).trans (e3.trans (congrArg nI e2))
  exact key _ (p + t) _ g.2.2 ey (fun z => ⟨g10, fun _ => hQ1 z⟩) (fun z => ⟨fun _ => by rw [en]; exact hK z, g00⟩)
theorem gtrue_def (S : List (Nat → Int32)) (mo i p : Nat) : gtrue S mo i p = gany (gtb S i p) (mo + 1) := rfl
theorem s_X6_isTrue {S : List (Nat → Int32)} {sc : Nat → Int32} {mo i p : Nat} {Q : Int32 → Prop} (hS : gRw S sc) (hN : S.length ≤ 18) (hmo : mo ≤ 7) (hi : i < 4) (hp : p < 4096) (h0 : gv p i = 0) (hQ1 : gtrue S mo i p = true → Q 1) (hQ0 : ¬ gtrue S mo i p = true → Q 0) : p_X6_isTrue 90 (nI S.length) sc (nI mo) (nI i) (nI p) Q := by
  rw [gtrue_def] at hQ1 hQ0
  unfold p_X6_isTrue
  refine gi1_inv (mo + 1) (fun w a => a = nI w ∧ ¬ gany (gtb S i p) w = true) ?_ ?_ ⟨rfl, Bool.false_ne_true⟩
  · rintro w hw X a ⟨rfl, ha⟩ hX
    refine s_X6_isTrue_3 hS hN hmo hi hp h0 (by omega) (fun z => hQ1 (gany_mono (k := w + 1) (gany_s.mpr (Or.inr z)) (mo + 1) (by omega))) (fun z => hX _ ⟨rfl, fun y => ?_⟩)
    rcases gany_s.mp y with y | y
    · exact ha y
    · exact z y
  · rintro X a ⟨rfl, ha⟩
    have hy : nI mo < nI (mo + 1) := by
      rw [nI_ltI (by omega) (by omega)]
      omega
    unfold p_X6_isTrue_3
    exact ⟨fun _ => hQ0 ha, fun g => absurd hy g⟩
def gcn (R D S : List (Nat → Int32)) (mo i w p : Nat) : Bool := if w = 0 then gin R p else if w = 1 then gin D p else if w = 2 then gtrue S mo i p else if w = 3 then gin R p && !gin D p else (gin R p && !gin D p) && gtrue S mo i p
theorem s_X6_isGrey {R D : List (Nat → Int32)} {rc dc : Nat → Int32} {p : Nat} {Q : Int32 → Prop} (hR : gRw R rc) (hD : gRw D dc) (lR : R.length ≤ 81) (lD : D.length ≤ 81) (hp : p < 4096) (h1 : (gin R p && !gin D p) = true → Q 1) (h0 : ¬ (gin R p && !gin D p) = true → Q 0) : p_X6_isGrey 405 405 (nI D.length) dc (nI R.length) rc (nI p) Q := by
  unfold p_X6_isGrey
  refine s_X4_aF hR (by omega) (by decide) hp (fun z => ⟨g10, fun _ => s_X4_aF hD (by omega) (by decide) hp (fun y => ⟨g10, fun _ => h0 ?_⟩) (fun y => ⟨fun _ => h1 ?_, g00⟩)⟩) (fun z => ⟨fun _ => h0 ?_, g00⟩)
  · rw [z, y]; decide
  · rw [Bool.not_eq_true] at y
    rw [z, y]; rfl
  · rw [Bool.not_eq_true] at z
    rw [z, Bool.false_and]; decide
theorem s_X6_isCounted {R D S : List (Nat → Int32)} {rc dc sc : Nat → Int32} {mo i w p : Nat} {Q : Int32 → Prop} (hR : gRw R rc) (hD : gRw D dc) (hS : gRw S sc) (lR : R.length ≤ 81) (lD : D.length ≤ 81) (lS : S.length ≤ 18) (hmo : mo ≤ 7) (hi : i < 4) (hp : p < 4096) (hz : gv p i = 0) (hw : w < 5) (h1 : gcn R D S mo i w p = true → Q 1) (h0 : ¬ gcn R D S mo i w p = true → Q 0) : p_X6_isCounted 405 405 90 (nI D.length) dc (nI R.length) rc (nI S.length) sc (nI mo) (nI i) (nI p) (nI w) Q := by
  unfold p_X6_isCounted
  unfold gcn at h1 h0
  rw [gl_0, gl_1, gl_2, gl_3, nI_eq (by omega) (by decide), nI_eq (by omega) (by decide), nI_eq (by omega) (by decide), nI_eq (by omega) (by decide)]
  rw [← gl_0, ← gl_1]
  refine ⟨fun e => ?_, fun e0 => ⟨fun e => ?_, fun e1 => ⟨fun e => ?_, fun e2 => ⟨fun e => ?_, fun e3 => ?_⟩⟩⟩⟩
  · rw [if_pos e] at h1 h0
    exact s_X4_aF hR (by omega) (by decide) hp (fun z => ⟨rfl, h1 z⟩) (fun z => ⟨rfl, h0 z⟩)
  · rw [if_neg e0, if_pos e] at h1 h0
    exact s_X4_aF hD (by omega) (by decide) hp (fun z => ⟨rfl, h1 z⟩) (fun z => ⟨rfl, h0 z⟩)
  · rw [if_neg e0, if_neg e1, if_pos e] at h1 h0
    exact s_X6_isTrue hS lS hmo hi hp hz (fun z => ⟨rfl, h1 z⟩) (fun z => ⟨rfl, h0 z⟩)
  · rw [if_neg e0, if_neg e1, if_neg e2, if_pos e] at h1 h0
    exact s_X6_isGrey hR hD lR lD hp (fun z => ⟨rfl, h1 z⟩) (fun z => ⟨rfl, h0 z⟩)
  · rw [if_neg e0, if_neg e1, if_neg e2, if_neg e3] at h1 h0
    refine s_X6_isGrey hR hD lR lD hp (fun z => ⟨g10, fun _ => s_X6_isTrue hS lS hmo hi hp hz (fun y => ⟨g10, fun _ => h1 ?_⟩) (fun y => ⟨fun _ => h0 ?_, g00⟩)⟩) (fun z => ⟨fun _ => h0 ?_, g00⟩)
    · rw [Bool.and_eq_true]; exact ⟨z, y⟩
    · rw [Bool.and_eq_true]; exact fun x => y x.2
    · rw [Bool.and_eq_true]; exact fun x => z x.1
def gbase (mo i p : Nat) : Bool := decide (gv p i = 0) && gbox mo p
theorem s_X6_depth {C : Nat → Nat → Int32} {n v mo w : Nat} {s1 s2 s3 : Int32} {dc rc sc cells : Nat → Int32} {Q : Int32 → Int32 → (Nat → Int32) → Int32 → (Nat → Int32) → Int32 → (Nat → Int32) → Prop} (hn : n ≤ 8) (hv : v < 4) (hmo : mo ≤ 7) (hw : w < 5) (hC : ∀ k, k < n → ∀ j, j < 6 → C k j = cells (6 * k + j)) (hB : ∀ k, k < n → ∀ j, j < 5 → gB (C k j) 99)
    (hQ : ∀ y4 y5 y6 y7 y8 y9, Q (nI (gcnt (fun p => gbase mo v p && gcn (gshd (gsrc C n v mo) v false) (gshd (gsrc C n v mo) v true) (gsrc C n v mo) mo v w p) 4096)) y4 y5 y6 y7 y8 y9) : p_X6_depth 405 405 90 s1 dc s2 rc s3 sc (nI n) (nI mo) cells (nI v) (nI w) Q := by
  have hN := gsrc_len C v mo hn
  have hsm : gsm (gsrc C n v mo) := gsm_src hmo hB
  unfold p_X6_depth
  refine s_X6_gatherRows hn hv hC (fun sc1 hS => s_X6_castShadow (dark := false) hS hN hsm hv rfl (fun rc1 hR => s_X6_castShadow (dark := true) hS hN hsm hv rfl (fun dc1 hD => ?_)))
  have lR : (gshd (gsrc C n v mo) v false).length ≤ 81 := gshd_len hN
  have lD : (gshd (gsrc C n v mo) v true).length ≤ 81 := gshd_len hN
  refine gi2_inv 4096 (fun q a b => b = nI q ∧ a = nI (gcnt (fun p => gbase mo v p && gcn (gshd (gsrc C n v mo) v false) (gshd (gsrc C n v mo) v true) (gsrc C n v mo) mo v w p) q)) ?_ ?_ ⟨rfl, rfl⟩
  · rintro q hq X a b ⟨rfl, rfl⟩ hX
    have en : nI q + (1 : Int32) = nI (q + 1) := nI_add q 1
    unfold p_X6_depth_32 p_X6_depth_77 p_X6_depth_80
    rw [en]
    have yes : (gbase mo v q && gcn (gshd (gsrc C n v mo) v false) (gshd (gsrc C n v mo) v true) (gsrc C n v mo) mo v w q) = true → X (nI (gcnt (fun p => gbase mo v p && gcn (gshd (gsrc C n v mo) v false) (gshd (gsrc C n v mo) v true) (gsrc C n v mo) mo v w p) q) + 1) (nI (q + 1)) := by
      intro z
      refine hX _ _ ⟨rfl, ?_⟩
      rw [gcnt_s (f := fun p => gbase mo v p && gcn (gshd (gsrc C n v mo) v false) (gshd (gsrc C n v mo) v true) (gsrc C n v mo) mo v w p) z]
      exact nI_add _ 1
    have no : ¬ (gbase mo v q && gcn (gshd (gsrc C n v mo) v false) (gshd (gsrc C n v mo) v true) (gsrc C n v mo) mo v w q) = true → X (nI (gcnt (fun p => gbase mo v p && gcn (gshd (gsrc C n v mo) v false) (gshd (gsrc C n v mo) v true) (gsrc C n v mo) mo v w p) q)) (nI (q + 1)) := by
      intro z
      refine hX _ _ ⟨rfl, ?_⟩
      rw [gcnt_n (f := fun p => gbase mo v p && gcn (gshd (gsrc C n v mo) v false) (gshd (gsrc C n v mo) v true) (gsrc C n v mo) mo v w p) z]
    refine ⟨fun g => ?_, fun _ => s_X3_valueOf hq hv rfl ?_⟩
    · rw [gl_4095, nI_ltI (by decide) (by omega)] at g; omega
    · have hgv := gv_lt q v
      rw [gl_0, nI_eq (by omega) (by decide)]
      refine ⟨fun gz => s_X9_isInBox hmo hq ?_, fun gz => no ?_⟩
      · by_cases hb : gbox mo q = true
        · rw [if_pos hb]
          have hbase : gbase mo v q = true := by
            unfold gbase
            rw [hb, decide_eq_true gz]
            rfl
          refine ⟨g10, fun _ => s_X6_isCounted hR hD hS lR lD hN hmo hv hq gz hw (fun z => ⟨g10, fun _ => yes ?_⟩) (fun z => ⟨fun _ => ?_, g00⟩)⟩
          · rw [hbase, z]; rfl
          · rw [← gl_0, Int32.add_zero]
            refine no ?_
            rw [hbase, Bool.true_and]
            exact z
        · rw [if_neg hb]
          refine ⟨fun _ => no ?_, g00⟩
          unfold gbase
          rw [Bool.not_eq_true] at hb
          rw [hb, Bool.and_false, Bool.false_and]
          decide
      · unfold gbase
        rw [decide_eq_false gz, Bool.false_and, Bool.false_and]
        decide
  · rintro X a b ⟨rfl, rfl⟩
    unfold p_X6_depth_32
    exact ⟨fun _ => hQ _ _ _ _ _ _, fun g => absurd (by decide) g⟩
