/-! what says and lays type -/
theorem gm_d10 : ∀ z, z < 100 → (48 : Int32) + nI z / 10 = nI (48 + z / 10) ∧ (48 : Int32) + (nI z - nI z / 10 * 10) = nI (48 + z % 10) := by decide +kernel
theorem gx_nle {t : Nat} (h0 : 0 < t) (h : t < 2147483648) : ¬ nI t ≤ (0 : Int32) := by
  rw [gl_0, nI_leI h (by decide)]
  omega
def gty (t0 : Nat) (a : Nat → Int32) (L : List Nat) (l : Nat → Int32) : Prop := (∀ i, i < t0 → l i = a i) ∧ ∀ i, i < L.length → l (t0 + i) = nI (L.getD i 0)
theorem gty_0 {t0 : Nat} {a : Nat → Int32} : gty t0 a [] a := ⟨fun _ _ => rfl, fun i hi => absurd hi (Nat.not_lt_zero i)⟩
def gd1 (z : Nat) : List Nat := if z < 10 then [] else [48 + z / 10]
def gd2 (v z : Nat) : List Nat := if v < 4 ∧ z = 1 then [] else [48 + z % 10]
def gd3 (v : Nat) : List Nat := if v < 4 then [97 + v] else []
section TY
variable {t0 : Nat} {a l : Nat → Int32} {L : List Nat}
theorem len_one (c : Nat) : (L ++ [c]).length = L.length + 1 := by
  rw [List.length_append]
  rfl
theorem lx_typ {c : Nat} {Q : Int32 → Int32 → (Nat → Int32) → Prop} (h : gty t0 a L l) (ht : t0 + L.length < 130) (h1 : 32 ≤ c) (h2 : c ≤ 126) (hQ : ∀ l', gty t0 a (L ++ [c]) l' → Q (nI (t0 + (L ++ [c]).length)) (nI (t0 + (L ++ [c]).length)) l') : p_X10_type (nI (t0 + L.length)) l (nI c) Q := by
  refine k_type ht h1 h2 (fun l' e1 e2 => ?_)
  have el : t0 + L.length + 1 = t0 + (L ++ [c]).length := by
    rw [len_one]
    rfl
  rw [el]
  refine hQ l' ⟨fun i hi => ?_, fun i hi => ?_⟩
  · rw [e1 i (by omega)]; exact h.1 i hi
  · rw [len_one] at hi
    by_cases e : i < L.length
    · rw [e1 _ (by omega), getD_l e]; exact h.2 i e
    · have : i = L.length := by omega
      subst this
      rw [e2, getD_r (Nat.le_refl _), Nat.sub_self]
      rfl
theorem lx_typ2 {c : Nat} {A B : Int32 → (Nat → Int32) → Prop} (h : gty t0 a L l) (ht : t0 + L.length < 130) (h1 : 32 ≤ c) (h2 : c ≤ 126) (hB : ∀ l', gty t0 a (L ++ [c]) l' → B (nI (t0 + (L ++ [c]).length)) l') : p_X10_type (nI (t0 + L.length)) l (nI c) (fun r y z => (r ≤ (0 : Int32) → A y z) ∧ (¬ (r ≤ (0 : Int32)) → B y z)) :=
  lx_typ h ht h1 h2 (fun l' hl => ⟨fun y => absurd y (gx_nle (by rw [len_one]; omega) (by rw [len_one]; omega)), fun _ => hB l' hl⟩)
variable {v z : Nat} {x : Int32} {K : Int32 → Int32 → Int32 → (Nat → Int32) → Prop}
theorem lx_s140 (hK : K 1 (nI (v + 1)) (nI (t0 + L.length)) l) : p_L_says_140 (nI (t0 + L.length)) l (nI v) K := by
  unfold p_L_says_140 p_L_says_145 p_L_says_146
  have e1 : nI v + (1 : Int32) = nI (v + 1) := nI_add _ 1
  rw [e1]
  exact hK
theorem lx_s122 (h : gty t0 a L l) (ht : t0 + L.length < 130) (hv : v ≤ 4) (hK : ∀ l', gty t0 a (L ++ gd3 v) l' → K 1 (nI (v + 1)) (nI (t0 + (L ++ gd3 v).length)) l') : p_L_says_122 (nI (t0 + L.length)) l (nI v) K := by
  unfold p_L_says_122
  refine ⟨fun y => ?_, fun y => ?_⟩
  · rw [gl_4, nI_eq (by omega) (by decide)] at y
    have e : gd3 v = [] := if_neg (by omega)
    rw [e, List.append_nil] at hK
    exact lx_s140 (hK l h)
  · rw [gl_4, nI_eq (by omega) (by decide)] at y
    have e : gd3 v = [97 + v] := if_pos (by omega)
    have e97 : (97 : Int32) + nI v = nI (97 + v) := nI_add 97 v
    rw [e97]
    rw [e] at hK
    exact lx_typ2 h ht (by omega) (by omega) (fun l' hl => lx_s140 (hK l' hl))
theorem lx_s107 (h : gty t0 a L l) (ht : t0 + L.length + 1 < 130) (hv : v ≤ 4) (hz : z < 100) (hK : ∀ l', gty t0 a ((L ++ [48 + z % 10]) ++ gd3 v) l' → K 1 (nI (v + 1)) (nI (t0 + ((L ++ [48 + z % 10]) ++ gd3 v).length)) l') : p_L_says_107 (nI (t0 + L.length)) l (nI v) (nI z) K := by
  unfold p_L_says_107
  rw [(gm_d10 z hz).2]
  exact lx_typ2 h (by omega) (by omega) (by omega) (fun l' hl => lx_s122 hl (by rw [len_one]; omega) hv hK)
theorem lx_s95 (h : gty t0 a L l) (ht : t0 + L.length + 1 < 130) (hv : v ≤ 4) (hz : z < 100) (hK : ∀ l', gty t0 a ((L ++ gd2 v z) ++ gd3 v) l' → K 1 (nI (v + 1)) (nI (t0 + ((L ++ gd2 v z) ++ gd3 v).length)) l') : p_L_says_95 (nI (t0 + L.length)) l (nI v) (nI z) K := by
  unfold p_L_says_95
  refine ⟨fun y => ?_, fun y => ⟨fun y1 => ?_, fun y1 => ?_⟩⟩
  · rw [gl_4, nI_leI (by decide) (by omega)] at y
    have e : gd2 v z = [48 + z % 10] := if_neg (fun g => absurd g.1 (by omega))
    rw [e] at hK
    exact lx_s107 h ht hv hz hK
  · rw [gl_4, nI_leI (by decide) (by omega)] at y
    rw [gl_1, nI_eq (by omega) (by decide)] at y1
    have e : gd2 v z = [] := if_pos ⟨by omega, y1⟩
    rw [e, List.append_nil] at hK
    exact lx_s122 h (by omega) hv hK
  · rw [gl_1, nI_eq (by omega) (by decide)] at y1
    have e : gd2 v z = [48 + z % 10] := if_neg (fun g => y1 g.2)
    rw [e] at hK
    exact lx_s107 h ht hv hz hK
theorem lx_s67 {s : Nat} (h : gty t0 a L l) (ht : t0 + L.length + 3 < 130) (hv : v ≤ 4) (hz : z < 100) (hs : s = 43 ∨ s = 45) (hK : ∀ l', gty t0 a ((((L ++ [s]) ++ gd1 z) ++ gd2 v z) ++ gd3 v) l' → K 1 (nI (v + 1)) (nI (t0 + ((((L ++ [s]) ++ gd1 z) ++ gd2 v z) ++ gd3 v).length)) l') : p_L_says_67 (nI (t0 + L.length)) l (nI v) (nI z) (nI s) K := by
  unfold p_L_says_67
  refine lx_typ2 h (by omega) (by omega) (by omega) (fun l' hl => ⟨fun y => ?_, fun y => ?_⟩)
  · rw [show (10 : Int32) = nI 10 from rfl, nI_ltI (by omega) (by decide)] at y
    have e : gd1 z = [] := if_pos y
    rw [e, List.append_nil] at hK
    exact lx_s95 hl (by rw [len_one]; omega) hv hz hK
  · rw [show (10 : Int32) = nI 10 from rfl, nI_ltI (by omega) (by decide)] at y
    have e : gd1 z = [48 + z / 10] := if_neg y
    rw [e] at hK
    rw [(gm_d10 z hz).1]
    exact lx_typ2 hl (by rw [len_one]; omega) (by omega) (by omega) (fun l2 hl2 => lx_s95 hl2 (by rw [len_one, len_one]; omega) hv hz hK)
theorem lx_s54 (h : gty t0 a L l) (ht : t0 + L.length + 3 < 130) (hv : v ≤ 4) (hx : x.toInt.natAbs < 100) (hx0 : ¬ (x = 0 ∧ ¬ v = 4)) (hK : ∀ l', gty t0 a (L ++ gtm v x) l' → K 1 (nI (v + 1)) (nI (t0 + (L ++ gtm v x).length)) l') : p_L_says_54 (nI (t0 + L.length)) l (nI v) x (nI x.toInt.natAbs) K := by
  have e : L ++ gtm v x = (((L ++ [gsc x]) ++ gd1 x.toInt.natAbs) ++ gd2 v x.toInt.natAbs) ++ gd3 v := by
    have e1 : gtm v x = gsc x :: ((gd1 x.toInt.natAbs ++ gd2 v x.toInt.natAbs) ++ gd3 v) := if_neg hx0
    rw [e1]
    simp only [List.append_assoc, List.cons_append, List.nil_append]
  rw [e] at hK
  have main := lx_s67 h ht hv hx (gsc_rng x) hK
  unfold p_L_says_54
  refine ⟨fun y => ?_, fun y => ?_⟩
  · have e : gsc x = 43 := if_pos y
    rw [e] at main
    exact main
  · have e : gsc x = 45 := if_neg y
    rw [e] at main
    exact main
theorem lx_s41 {s0 : Int32} (h : gty t0 a L l) (ht : t0 + L.length + 3 < 130) (hv : v ≤ 4) (hx : x.toInt.natAbs < 100) (hs : s0 = nI x.toInt.natAbs) (hK : ∀ l', gty t0 a (L ++ gtm v x) l' → K 1 (nI (v + 1)) (nI (t0 + (L ++ gtm v x).length)) l') : p_L_says_41 (nI (t0 + L.length)) l 1 (nI v) x s0 K := by
  subst hs
  unfold p_L_says_41
  refine ⟨fun y => ⟨fun y1 => ?_, fun y1 => ?_⟩, fun y => lx_s54 h ht hv hx (fun g => y g.1) hK⟩
  · rw [gl_4, nI_eq (by omega) (by decide)] at y1
    exact lx_s54 h ht hv hx (fun g => g.2 y1) hK
  · rw [gl_4, nI_eq (by omega) (by decide)] at y1
    have e : gtm v x = [] := if_pos ⟨y, y1⟩
    rw [e, List.append_nil] at hK
    exact lx_s140 (hK l h)
end TY
/-! says: the letters of one constraint -/
def gtp (c : Nat → Int32) : Nat → List Nat
  | 0 => []
  | v + 1 => gtp c v ++ gtm v (c v)
theorem gtp_tr (c : Nat → Int32) : gtp c 5 ++ [gsgn (gkf (c 5))] = gtr c 4 := by
  show (((((([] ++ gtm 0 (c 0)) ++ gtm 1 (c 1)) ++ gtm 2 (c 2)) ++ gtm 3 (c 3)) ++ gtm 4 (c 4)) ++ [gsgn (gkf (c 5))]) = gtm 0 (c 0) ++ (gtm 1 (c 1) ++ (gtm 2 (c 2) ++ (gtm 3 (c 3) ++ (gtm 4 (c 4) ++ [gsgn (gkf (c 5))]))))
  simp only [List.append_assoc, List.nil_append]
section SY
variable {n mo : Nat} {C : Nat → Nat → Int32} {w a l : Nat → Int32} {L : List Nat} {t0 : Nat}
theorem gtp_len {k : Nat} (hR : gRC n C) (hk : k < n) : ∀ v, v ≤ 5 → (gtp (C k) v).length ≤ 3 * v := by
  obtain ⟨-, h9⟩ := gRC_abs hR hk
  intro v
  induction v with
  | zero => intro _; exact Nat.le_refl _
  | succ v ih =>
    intro hv
    have := gtm_len (v := v) (x := C k v) (fun z => h9 _ z)
    have i1 := ih (by omega)
    show (gtp (C k) v ++ gtm v (C k v)).length ≤ _
    rw [List.length_append]
    omega
theorem lx_says {k : Nat} {Q : Int32 → Int32 → (Nat → Int32) → Prop} (hw : gLw n mo C w) (hn : n ≤ 8) (hR : gRC n C) (hk : k < n) (h : gty t0 a L l) (ht : t0 + L.length + 16 ≤ 130) (hQ : ∀ l', gty t0 a (L ++ gtr (C k) 4) l' → Q 1 (nI (t0 + (L ++ gtr (C k) 4).length)) l') : p_L_says (nI (t0 + L.length)) l w (nI k) Q := by
  obtain ⟨h99, h9⟩ := gRC_abs hR hk
  obtain ⟨-, -, kd, hkd4, hkd⟩ := hR k hk
  unfold p_L_says
  refine gi4_ix (fun i a1 b d e => ∃ v, i + v = 5 ∧ a1 = 1 ∧ b = nI v ∧ d = nI (t0 + (L ++ gtp (C k) v).length) ∧ gty t0 a (L ++ gtp (C k) v) e) ?_ 5 ⟨0, rfl, rfl, rfl, by rw [show gtp (C k) 0 = [] from rfl, List.append_nil], by rw [show gtp (C k) 0 = [] from rfl, List.append_nil]; exact h⟩
  rintro i X a1 b d e ⟨v, hi, rfl, rfl, rfl, he⟩ hX
  have pl := gtp_len hR hk v (by omega)
  have tl : (L ++ gtp (C k) v).length = L.length + (gtp (C k) v).length := List.length_append
  unfold p_L_says_5
  have fin : 5 ≤ v → p_L_says_152 (nI (t0 + (L ++ gtp (C k) v).length)) e w (nI k) 1 Q := fun hv => by
    have v5 : v = 5 := by omega
    subst v5
    unfold p_L_says_152
    refine ⟨g10, fun _ => ⟨by rw [gx_w8]; exact vp_in_nI (by omega) (by decide), ?_⟩⟩
    rw [gx_w8, nI_clamp (by omega), hw.2.2 k hk 5 (by decide), hkd]
    have sg := gsgn_rng hkd4
    refine lx_sign hkd4 (lx_typ2 he (by omega) (by omega) (by omega) (fun l' hl => ?_))
    have e : (L ++ gtp (C k) 5) ++ [gsgn kd] = L ++ gtr (C k) 4 := by
      rw [List.append_assoc, ← gtp_tr, hkd, gkf_nI hkd4]
    rw [e] at hl ⊢
    exact hQ l' hl
  refine ⟨fun y => ?_, fun y => ⟨g10, fun _ => ⟨by rw [gx_m6j]; exact vp_in_nI (by omega) (by decide), fun z hz => ?_⟩⟩⟩
  · rw [gl_5, nI_leI (by decide) (by omega)] at y
    exact fin y
  · rw [gl_5, nI_leI (by decide) (by omega)] at y
    rw [gx_m6j, nI_clamp (by omega), hw.2.2 k hk v (by omega)] at hz
    subst hz
    have hx : (C k v).toInt.natAbs < 100 := by have := h99 v (by omega); omega
    have go : ∀ l', gty t0 a ((L ++ gtp (C k) v) ++ gtm v (C k v)) l' → X 1 (nI (v + 1)) (nI (t0 + ((L ++ gtp (C k) v) ++ gtm v (C k v)).length)) l' := fun l' hl => by
      have e : (L ++ gtp (C k) v) ++ gtm v (C k v) = L ++ gtp (C k) (v + 1) := List.append_assoc _ _ _
      rw [e] at hl ⊢
      exact hX (i - 1) _ _ _ _ (by omega) ⟨v + 1, by omega, rfl, rfl, rfl, hl⟩
    refine ⟨fun g => lx_s41 he (by omega) (by omega) hx (gm_absP (by omega) g) go, fun g => lx_s41 he (by omega) (by omega) hx (gm_absN (by omega) g) go⟩
/-! lays: all of them, and the call -/
def gzp (C : Nat → Nat → Int32) : Nat → List Nat
  | 0 => []
  | k + 1 => gzp C k ++ (59 :: gtr (C k) 4)
theorem gzp_tz (C : Nat → Nat → Int32) (n : Nat) : gzp C n = gtz C n n := by
  have : ∀ d, d ≤ n → gzp C (n - d) ++ gtz C n d = gzp C n := by
    intro d
    induction d with
    | zero => intro _; exact List.append_nil _
    | succ d ih =>
      intro hd
      have e : gzp C (n - d) = gzp C (n - (d + 1)) ++ (59 :: gtr (C (n - 1 - d)) 4) := by
        rw [show n - d = n - (d + 1) + 1 by omega, show n - 1 - d = n - (d + 1) by omega]
        rfl
      rw [← ih (by omega), e, List.append_assoc]
      rfl
  have := this n (Nat.le_refl _)
  rw [Nat.sub_self] at this
  exact this.symm
theorem gzp_len (hR : gRC n C) : ∀ k, k ≤ n → (gzp C k).length ≤ 17 * k := by
  intro k
  induction k with
  | zero => intro _; exact Nat.le_refl _
  | succ k ih =>
    intro hk
    have i1 := ih (by omega)
    have j1 := (gtr_ok hR (k := k) (by omega) 4 (Nat.le_refl _)).2
    show (gzp C k ++ (59 :: gtr (C k) 4)).length ≤ _
    rw [List.length_append, List.length_cons]
    omega
theorem gokL_get {A : List Nat} (h : gokL A) {i : Nat} (hi : i < A.length) : 33 ≤ A.getD i 0 ∧ A.getD i 0 ≤ 126 := by
  rw [List.getD_eq_getElem?_getD, List.getElem?_eq_getElem hi]
  exact h _ (List.getElem_mem hi)
theorem lx_lays {known size most draw changes place lt rt ts tm td tch : Int32} {cells tc letters : Nat → Int32} {Q : Int32 → Int32 → Int32 → Int32 → Int32 → Int32 → (Nat → Int32) → Int32 → Int32 → Int32 → Int32 → (Nat → Int32) → Int32 → Int32 → Int32 → (Nat → Int32) → Prop} (hw : gLw n mo C w) (hn : n ≤ 7) (hmo : 1 ≤ mo) (hmo7 : mo ≤ 7) (hR : gRC n C)
    (hQ : ∀ c' y1 y2 y3 l' y4 y5 y6 y7, gTc n mo C c' (nI n) (nI mo) → Q 1 0 (nI n) (nI mo) draw (changes + 1) c' 0 y1 y2 y3 l' y4 y5 y6 y7) : p_L_lays known size most draw changes cells 0 place lt rt letters ts tm td tch tc w Q := by
  have z0 : (0 : Int32) = nI (0 + ([] : List Nat).length) := rfl
  unfold p_L_lays
  refine ⟨gx_in 1 rfl (by decide) (by decide), ?_⟩
  have e48 : (48 : Int32) + nI mo = nI (48 + mo) := nI_add 48 mo
  rw [gcl_1, hw.2.1, e48]
  have first : p_X10_type (nI (0 + ([] : List Nat).length)) letters (nI (48 + mo)) (fun r2 y3 y4 => (r2 ≤ (0 : Int32) → p_L_lays_18 known size most draw changes cells y3 place lt rt y4 ts tm td tch tc w 0 Q) ∧ (¬ (r2 ≤ (0 : Int32)) → p_L_lays_18 known size most draw changes cells y3 place lt rt y4 ts tm td tch tc w 1 Q)) := by
    refine lx_typ2 (t0 := 0) (a := letters) gty_0 (by decide) (by omega) (by omega) (fun l1 hl1 => ?_)
    unfold p_L_lays_18
    refine gi4_ix (fun i a1 b d e => ∃ k, i + k = n ∧ a1 = 1 ∧ b = nI k ∧ d = nI (0 + ([48 + mo] ++ gzp C k).length) ∧ gty 0 letters ([48 + mo] ++ gzp C k) e) ?_ n ⟨0, rfl, rfl, rfl, rfl, hl1⟩
    rintro i X a1 b d e ⟨k, hi, rfl, rfl, rfl, he⟩ hX
    unfold p_L_lays_21
    have pl := gzp_len hR k (by omega)
    have tl : ([48 + mo] ++ gzp C k).length = 1 + (gzp C k).length := List.length_append
    refine ⟨gx_in 0 rfl (by decide) (by decide), ?_⟩
    rw [gcl_0, hw.1]
    refine ⟨fun y => ?_, fun y => ⟨g10, fun _ => ?_⟩⟩
    · rw [nI_leI (by omega) (by omega)] at y
      have ek : k = n := by omega
      subst ek
      unfold p_L_lays_62
      refine ⟨g10, fun _ => ?_⟩
      -- what was typed
      have ok : gokL ([48 + mo] ++ gzp C k) := by
        rw [gzp_tz]
        exact gokL_app (gokL_one (by omega)) (gtz_ok hR k (Nat.le_refl _)).1
      have nb : ∀ i, i < ([48 + mo] ++ gzp C k).length → ¬ (fun i => ([48 + mo] ++ gzp C k).getD i 0) i = 32 := fun i hi z => by
        have := gokL_get ok hi
        have z : ([48 + mo] ++ gzp C k).getD i 0 = 32 := z
        omega
      have hT : gTx (fun i => ([48 + mo] ++ gzp C k).getD i 0) ([48 + mo] ++ gzp C k).length e := by
        refine ⟨by omega, fun i hi => ?_⟩
        have := gokL_get ok hi
        have ei := he.2 i hi
        rw [Nat.zero_add] at ei
        exact ⟨ei, Nat.le_trans (by decide) this.1, this.2⟩
      have g0 : gch (fun i => ([48 + mo] ++ gzp C k).getD i 0) ([48 + mo] ++ gzp C k).length 0 = 48 + mo := gch_id nb (by omega)
      have sy := gsy_text nb (n := k) (C := C) (by omega) hR k (Nat.le_refl _) 9 1 (fun _ _ => 0) (by omega) (fun i hi => by
        rw [← gzp_tz] at hi ⊢
        show ([48 + mo] ++ gzp C k).getD (1 + i) 0 = _
        rw [getD_r (by show 1 ≤ 1 + i; omega)]
        congr 1
        show 1 + i - 1 = i
        omega) (by rw [← gzp_tz, tl]) (fun i hi => by omega)
      rw [Nat.sub_self] at sy
      have eS : gsS0 (fun i => ([48 + mo] ++ gzp C k).getD i 0) ([48 + mo] ++ gzp C k).length = gsy (fun i => ([48 + mo] ++ gzp C k).getD i 0) ([48 + mo] ++ gzp C k).length 9 0 1 (fun _ _ => 0) := by
        unfold gsS0
        rw [gN_id nb (by omega)]
      obtain ⟨s1, s2, s3⟩ := sy
      rw [Nat.zero_add]
      refine k_system hT (by rw [g0]; omega) (by rw [eS]; exact s1) (fun c' y1 y2 y3 y4 y5 y6 y7 hc => ?_)
      rw [eS, g0, s2, Nat.add_sub_cancel_left] at hc ⊢
      refine ⟨gx_in 0 rfl (by decide) (by decide), ?_⟩
      rw [gcl_0, hw.1]
      exact ⟨fun _ => hQ _ _ _ _ _ _ _ _ _ (hc.cgC (fun i hi j hj => (s3 i hi j hj).symm)), fun y => absurd rfl y⟩
    · rw [nI_leI (by omega) (by omega)] at y
      have e59 : (59 : Int32) = nI 59 := rfl
      rw [e59]
      refine lx_typ2 he (by omega) (by decide) (by decide) (fun l2 hl2 => ?_)
      refine lx_says hw (by omega) hR (k := k) (by omega) hl2 (by rw [len_one]; omega) (fun l3 hl3 => ⟨g10, fun _ => ?_⟩)
      unfold p_L_lays_55
      have e1 : nI k + (1 : Int32) = nI (k + 1) := nI_add _ 1
      have e2 : (([48 + mo] ++ gzp C k) ++ [59]) ++ gtr (C k) 4 = [48 + mo] ++ gzp C (k + 1) := by
        show _ = [48 + mo] ++ (gzp C k ++ (59 :: gtr (C k) 4))
        simp only [List.append_assoc, List.cons_append, List.nil_append]
      rw [e1]
      rw [e2] at hl3 ⊢
      exact hX (i - 1) _ _ _ _ (by omega) ⟨k + 1, by omega, rfl, rfl, rfl, hl3⟩
  exact first
end SY
