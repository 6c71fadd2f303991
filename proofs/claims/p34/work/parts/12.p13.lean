/-! a system told letter by letter, and read -/
def gseg (T : Nat → Nat) (p : Nat) (L : List Nat) : Prop := ∀ i, i < L.length → T (p + i) = L.getD i 0
theorem getD_l {A B : List Nat} {i : Nat} (h : i < A.length) : (A ++ B).getD i 0 = A.getD i 0 := by
  rw [List.getD_eq_getElem?_getD, List.getD_eq_getElem?_getD, List.getElem?_append_left h]
theorem getD_r {A B : List Nat} {i : Nat} (h : A.length ≤ i) : (A ++ B).getD i 0 = B.getD (i - A.length) 0 := by
  rw [List.getD_eq_getElem?_getD, List.getD_eq_getElem?_getD, List.getElem?_append_right h]
theorem gseg_app {T : Nat → Nat} {p : Nat} {A B : List Nat} (h : gseg T p (A ++ B)) : gseg T p A ∧ gseg T (p + A.length) B := by
  refine ⟨fun i hi => ?_, fun i hi => ?_⟩
  · rw [h i (by rw [List.length_append]; omega), getD_l hi]
  · rw [Nat.add_assoc, h (A.length + i) (by rw [List.length_append]; omega), getD_r (by omega)]
    congr 1
    omega
theorem gseg_0 {T : Nat → Nat} {p c : Nat} {L : List Nat} (h : gseg T p (c :: L)) : T p = c := h 0 (Nat.succ_pos _)
theorem gseg_t {T : Nat → Nat} {p c : Nat} {L : List Nat} (h : gseg T p (c :: L)) : gseg T (p + 1) L := fun i hi => by
  have := h (i + 1) (Nat.succ_lt_succ hi)
  rw [show p + 1 + i = p + (i + 1) by omega, this]
  rfl
/-- the letters of a term, of a constraint from a term on -/
def gsc (x : Int32) : Nat := if 0 ≤ x then 43 else 45
def gdt (v z : Nat) : List Nat := (if z < 10 then [] else [48 + z / 10]) ++ (if v < 4 ∧ z = 1 then [] else [48 + z % 10]) ++ (if v < 4 then [97 + v] else [])
def gtm (v : Nat) (x : Int32) : List Nat := if x = 0 ∧ ¬ v = 4 then [] else gsc x :: gdt v x.toInt.natAbs
def gkf (x : Int32) : Nat := x.toInt.toNat
def gtr (c : Nat → Int32) : Nat → List Nat
  | 0 => gtm 4 (c 4) ++ [gsgn (gkf (c 5))]
  | d + 1 => gtm (3 - d) (c (3 - d)) ++ gtr c d
def gtz (C : Nat → Nat → Int32) (n : Nat) : Nat → List Nat
  | 0 => []
  | d + 1 => (59 :: gtr (C (n - 1 - d)) 4) ++ gtz C n d
theorem gkf_nI {c : Nat} (h : c ≤ 4) : gkf (nI c) = c := by
  unfold gkf
  rw [nI_toInt (by omega)]
  omega
theorem gsgn_rng {c : Nat} (h : c ≤ 4) : 32 ≤ gsgn c ∧ gsgn c ≤ 126 ∧ ¬ (48 ≤ gsgn c ∧ gsgn c ≤ 57) ∧ ¬ (97 ≤ gsgn c ∧ gsgn c ≤ 100) ∧ gkd (gsgn c) = some c ∧ gsgn c ≠ 32 := by
  rcases (show c = 0 ∨ c = 1 ∨ c = 2 ∨ c = 3 ∨ c = 4 by omega) with rfl | rfl | rfl | rfl | rfl <;> decide
theorem gsc_rng (x : Int32) : gsc x = 43 ∨ gsc x = 45 := by
  unfold gsc
  split
  · exact Or.inl rfl
  · exact Or.inr rfl
theorem gsS_gsc {x : Int32} (h : x.toInt.natAbs < 2 ^ 30) : gsS (gsc x) * nI x.toInt.natAbs = x := by
  unfold gsc
  by_cases g : 0 ≤ x
  · rw [if_pos g, ← gm_absP h g]
    exact Int32.one_mul x
  · rw [if_neg g, ← gm_absN h g]
    show (-1 : Int32) * -x = x
    rw [Int32.neg_mul, Int32.one_mul, Int32.neg_neg]
theorem gdt_len {v z : Nat} (h4 : v < 4 → z ≤ 9) : (gdt v z).length ≤ 2 := by
  unfold gdt
  rw [List.length_append, List.length_append]
  by_cases a : v < 4
  · rw [if_pos (by have := h4 a; omega), if_pos a]
    split <;> exact Nat.le_of_ble_eq_true rfl
  · rw [if_neg a]
    split <;> split <;> exact Nat.le_of_ble_eq_true rfl
theorem gtm_len {v : Nat} {x : Int32} (h4 : v < 4 → x.toInt.natAbs ≤ 9) : (gtm v x).length ≤ 3 := by
  unfold gtm
  split
  · exact Nat.zero_le _
  · have := gdt_len h4
    rw [List.length_cons]
    omega
/-- all its letters can be typed, none is a blank -/
def gokL (L : List Nat) : Prop := ∀ c ∈ L, 33 ≤ c ∧ c ≤ 126
theorem gokL_app {A B : List Nat} (h1 : gokL A) (h2 : gokL B) : gokL (A ++ B) := fun c hc => (List.mem_append.mp hc).elim (h1 c) (h2 c)
theorem gokL_one {c : Nat} (h : 33 ≤ c ∧ c ≤ 126) : gokL [c] := fun d hd => by rw [List.mem_singleton.mp hd]; exact h
theorem gokL_nil : gokL [] := fun c hc => absurd hc List.not_mem_nil
theorem gdt_ok {v z : Nat} (hv : v ≤ 4) (hz : z ≤ 99) : gokL (gdt v z) := by
  unfold gdt
  refine gokL_app (gokL_app ?_ ?_) ?_
  · split
    · exact gokL_nil
    · exact gokL_one (by omega)
  · split
    · exact gokL_nil
    · exact gokL_one (by omega)
  · split
    · exact gokL_one (by omega)
    · exact gokL_nil
theorem gtm_ok {v : Nat} {x : Int32} (hv : v ≤ 4) (hz : x.toInt.natAbs ≤ 99) : gokL (gtm v x) := by
  unfold gtm
  split
  · exact gokL_nil
  · have h1 : gokL [gsc x] := gokL_one (by have := gsc_rng x; omega)
    exact gokL_app h1 (gdt_ok hv hz)
theorem gRC_abs {n k : Nat} {C : Nat → Nat → Int32} (hR : gRC n C) (hk : k < n) : (∀ v, v < 5 → (C k v).toInt.natAbs ≤ 99) ∧ (∀ v, v < 4 → (C k v).toInt.natAbs ≤ 9) := by
  obtain ⟨a, b, -⟩ := hR k hk
  refine ⟨fun v hv => ?_, fun v hv => by have := a v hv; omega⟩
  rcases (show v < 4 ∨ v = 4 by omega) with z | z
  · have := a v z; omega
  · subst z; omega
theorem gtr_ok {n k : Nat} {C : Nat → Nat → Int32} (hR : gRC n C) (hk : k < n) : ∀ d, d ≤ 4 → gokL (gtr (C k) d) ∧ (gtr (C k) d).length ≤ 3 * d + 4 := by
  obtain ⟨h99, h9⟩ := gRC_abs hR hk
  obtain ⟨-, -, kd, hkd4, hkd⟩ := hR k hk
  intro d
  induction d with
  | zero =>
    intro _
    have sg := gsgn_rng hkd4
    refine ⟨gokL_app (gtm_ok (by decide) (h99 4 (by decide))) (gokL_one (by rw [hkd, gkf_nI hkd4]; omega)), ?_⟩
    show (gtm 4 (C k 4) ++ [_]).length ≤ _
    rw [List.length_append]
    have := gtm_len (v := 4) (x := C k 4) (fun z => absurd z (by decide))
    have e : [gsgn (gkf (C k 5))].length = 1 := rfl
    omega
  | succ d ih =>
    intro hd
    obtain ⟨i1, i2⟩ := ih (by omega)
    refine ⟨gokL_app (gtm_ok (by omega) (h99 _ (by omega))) i1, ?_⟩
    show (gtm (3 - d) (C k (3 - d)) ++ gtr (C k) d).length ≤ _
    rw [List.length_append]
    have := gtm_len (v := 3 - d) (x := C k (3 - d)) (fun z => h9 _ z)
    omega
theorem gtz_ok {n : Nat} {C : Nat → Nat → Int32} (hR : gRC n C) : ∀ d, d ≤ n → gokL (gtz C n d) ∧ (gtz C n d).length ≤ 17 * d := by
  intro d
  induction d with
  | zero => intro _; exact ⟨gokL_nil, Nat.zero_le _⟩
  | succ d ih =>
    intro hd
    obtain ⟨i1, i2⟩ := ih (by omega)
    obtain ⟨j1, j2⟩ := gtr_ok hR (k := n - 1 - d) (by omega) 4 (Nat.le_refl _)
    refine ⟨gokL_app (gokL_app (gokL_one (c := 59) (by decide)) j1) i1, ?_⟩
    show ((59 :: gtr (C (n - 1 - d)) 4) ++ gtz C n d).length ≤ _
    rw [List.length_append, List.length_cons]
    omega
/-! reading it -/
section RD
variable {T : Nat → Nat} {t : Nat}
theorem gN_id (nb : ∀ i, i < t → ¬ T i = 32) {p : Nat} (hp : p ≤ t) : gN T t p = p := by
  apply gN_self
  by_cases h : p < t
  · exact Or.inr (nb p h)
  · exact Or.inl h
theorem gch_id (nb : ∀ i, i < t → ¬ T i = 32) {p : Nat} (hp : p < t) : gch T t p = T p := by
  unfold gch
  rw [gN_id nb (by omega), if_pos hp]
/-- a term of a letter -/
theorem gcl_let (nb : ∀ i, i < t → ¬ T i = 32) {F p m v : Nat} {first : Bool} {row : Nat → Int32} {x : Int32} (hv : v < 4) (hx0 : ¬ x = 0) (hx : x.toInt.natAbs ≤ 9) (hs : gseg T p (gtm v x)) (hp : p + (gtm v x).length < t) (hm : m < 2 ^ v) (hnext : T (p + (gtm v x).length) = 43 ∨ T (p + (gtm v x).length) = 45) : gcl T t (F + 1) first p m false row = gcl T t F false (p + (gtm v x).length) (m ||| 2 ^ v) false (upd row v x) := by
  have x0 : x.toInt.natAbs ≠ 0 := fun z => hx0 (Int32.toInt_inj.mp (by have : (0 : Int32).toInt = 0 := rfl; omega))
  have el : gtm v x = gsc x :: gdt v x.toInt.natAbs := if_neg (fun z => hx0 z.1)
  rw [el] at hs hp hnext ⊢
  have hsgn := gsc_rng x
  have c0 : T p = gsc x := gseg_0 hs
  have hs1 := gseg_t hs
  have pt : p < t := by omega
  have g0 := gch_id nb pt
  have eO : gsO (gch T t p) first = true := by
    unfold gsO
    rw [g0, c0, decide_eq_true (by omega)]
    rfl
  have eP : gsP T t p = p + 1 := by
    unfold gsP
    rw [g0, c0, if_pos (by omega), gN_id nb (by omega)]
  have eS : gsS (gch T t p) = gsS (gsc x) := by rw [g0, c0]
  rw [gcl_yes eO, eP, eS]
  rw [List.length_cons] at hp hnext ⊢
  -- the number and the letter
  have num : gtC T t (p + 1) = 97 + v ∧ gtQ T t (p + 1) = p + (gdt v x.toInt.natAbs).length ∧ gle9 (gnumV T t (p + 1)) = true ∧ gsS (gsc x) * gone (gnumV T t (p + 1)) = x := by
    have hl : p + 1 < t := by omega
    have g1 := gch_id nb hl
    by_cases z1 : x.toInt.natAbs = 1
    · have ed : gdt v x.toInt.natAbs = [97 + v] := by
        unfold gdt
        rw [z1, if_pos (by decide), if_pos ⟨hv, rfl⟩, if_pos hv]
        rfl
      rw [ed] at hs1 hp ⊢
      have c1 : T (p + 1) = 97 + v := gseg_0 hs1
      have nd : ¬ gdg (gch T t (p + 1)) := by rw [g1, c1]; intro z; omega
      have eV : gnumV T t (p + 1) = none := if_neg nd
      have eQ : gnumP T t (p + 1) = p + 1 := by
        unfold gnumP
        rw [if_neg nd, gN_id nb (by omega)]
      unfold gtC gtQ
      rw [eQ, eV, gN_id nb (by omega), g1, c1]
      refine ⟨rfl, rfl, rfl, ?_⟩
      have := gsS_gsc (x := x) (by omega)
      rw [z1] at this
      exact this
    · have ed : gdt v x.toInt.natAbs = [48 + x.toInt.natAbs, 97 + v] := by
        unfold gdt
        rw [if_pos (by omega), if_neg (fun z => z1 z.2), if_pos hv, Nat.mod_eq_of_lt (by omega)]
        rfl
      rw [ed] at hs1 hp ⊢
      have c1 : T (p + 1) = 48 + x.toInt.natAbs := gseg_0 hs1
      have c2 : T (p + 1 + 1) = 97 + v := gseg_0 (gseg_t hs1)
      have len2 : [48 + x.toInt.natAbs, 97 + v].length = 2 := rfl
      rw [len2] at hp
      have g2 := gch_id nb (p := p + 1 + 1) (by omega)
      have dg : gdg (gch T t (p + 1)) := by rw [g1, c1]; constructor <;> omega
      have n2 : ¬ (gN T t (p + 1) + 1 < t ∧ gdg (T (gN T t (p + 1) + 1))) := by
        rw [gN_id nb (by omega)]
        rintro ⟨-, z⟩
        rw [c2] at z
        have := z.2
        omega
      have eV : gnumV T t (p + 1) = some x.toInt.natAbs := by
        unfold gnumV
        rw [if_pos dg, if_neg n2, g1, c1]
        congr 1
        omega
      have eQ : gnumP T t (p + 1) = p + 1 + 1 := by
        unfold gnumP
        rw [if_pos dg, if_neg n2, gN_id nb (by omega)]
      unfold gtC gtQ
      rw [eQ, eV, gN_id nb (by omega), g2, c2]
      exact ⟨rfl, rfl, decide_eq_true hx, gsS_gsc (by omega)⟩
  obtain ⟨n1, n2, n3, n4⟩ := num
  have inl : 97 ≤ gtC T t (p + 1) ∧ gtC T t (p + 1) ≤ 100 := by omega
  have ev : gtC T t (p + 1) - 97 = v := by omega
  have eOK : gtOK T t (p + 1) m false = true := by
    unfold gtOK
    rw [if_pos inl, n3, ev, Nat.div_eq_of_lt hm]
    rfl
  have ePP : gtP T t (p + 1) = p + ((gdt v x.toInt.natAbs).length + 1) := by
    unfold gtP
    rw [if_pos inl, n2]
    omega
  have gnx := gch_id nb hp
  have eK : gkd (gch T t (gtP T t (p + 1))) = none := by
    rw [ePP, gnx]
    rcases hnext with z | z
    · rw [z]; rfl
    · rw [z]; rfl
  rw [gcb_go eOK eK, ePP, gN_id nb (by omega)]
  have eM : gtM T t (p + 1) m = m ||| 2 ^ v := by
    unfold gtM
    rw [if_pos inl, ev]
  have eR : gtR T t (p + 1) false = false := by
    unfold gtR
    rw [if_pos inl]
  have eX : gtX T t (p + 1) (gsS (gsc x)) row = upd row v x := by
    unfold gtX
    rw [if_pos inl, ev, n4]
  rw [eM, eR, eX]
/-- the rest and the kind -/
theorem gcl_rest (nb : ∀ i, i < t → ¬ T i = 32) {F p m kd : Nat} {first : Bool} {row : Nat → Int32} {x : Int32} (hkd : kd ≤ 4) (hx : x.toInt.natAbs ≤ 99) (hs : gseg T p (gtm 4 x)) (hp : p + (gtm 4 x).length < t) (hc : T (p + (gtm 4 x).length) = gsgn kd) : gcl T t (F + 1) first p m false row = (true, p + (gtm 4 x).length + 1, upd (upd row 4 x) 5 (nI kd)) := by
  obtain ⟨s1, s2, s3, s4, s5, s6⟩ := gsgn_rng hkd
  have el : gtm 4 x = gsc x :: gdt 4 x.toInt.natAbs := if_neg (fun z => z.2 rfl)
  rw [el] at hs hp hc ⊢
  have hsgn := gsc_rng x
  have c0 : T p = gsc x := gseg_0 hs
  have hs1 := gseg_t hs
  have pt : p < t := by omega
  have g0 := gch_id nb pt
  have eO : gsO (gch T t p) first = true := by
    unfold gsO
    rw [g0, c0, decide_eq_true (by omega)]
    rfl
  have eP : gsP T t p = p + 1 := by
    unfold gsP
    rw [g0, c0, if_pos (by omega), gN_id nb (by omega)]
  have eS : gsS (gch T t p) = gsS (gsc x) := by rw [g0, c0]
  rw [gcl_yes eO, eP, eS]
  rw [List.length_cons] at hp hc ⊢
  have gnx := gch_id nb hp
  have num : gnumP T t (p + 1) = p + ((gdt 4 x.toInt.natAbs).length + 1) ∧ gnumV T t (p + 1) = some x.toInt.natAbs := by
    have hl : p + 1 < t := by
      have : 0 < (gdt 4 x.toInt.natAbs).length := by
        unfold gdt
        rw [List.length_append, List.length_append, if_neg (show ¬ ((4 : Nat) < 4 ∧ x.toInt.natAbs = 1) from fun z => absurd z.1 (by decide))]
        have : [48 + x.toInt.natAbs % 10].length = 1 := rfl
        omega
      omega
    have g1 := gch_id nb hl
    by_cases z10 : x.toInt.natAbs < 10
    · have ed : gdt 4 x.toInt.natAbs = [48 + x.toInt.natAbs] := by
        unfold gdt
        rw [if_pos z10, if_neg (fun z => absurd z.1 (by decide)), if_neg (by decide), Nat.mod_eq_of_lt z10]
        rfl
      rw [ed] at hs1 hp hc ⊢
      have c1 : T (p + 1) = 48 + x.toInt.natAbs := gseg_0 hs1
      have dg : gdg (gch T t (p + 1)) := by rw [g1, c1]; constructor <;> omega
      have hc' : T (p + 1 + 1) = gsgn kd := hc
      have n2 : ¬ (gN T t (p + 1) + 1 < t ∧ gdg (T (gN T t (p + 1) + 1))) := by
        rw [gN_id nb (by omega)]
        rintro ⟨-, z⟩
        rw [hc'] at z
        exact s3 z
      refine ⟨?_, ?_⟩
      · unfold gnumP
        rw [if_pos dg, if_neg n2, gN_id nb (by omega)]
        rfl
      · unfold gnumV
        rw [if_pos dg, if_neg n2, g1, c1]
        congr 1
        omega
    · have ed : gdt 4 x.toInt.natAbs = [48 + x.toInt.natAbs / 10, 48 + x.toInt.natAbs % 10] := by
        unfold gdt
        rw [if_neg z10, if_neg (fun z => absurd z.1 (by decide)), if_neg (by decide)]
        rfl
      rw [ed] at hs1 hp hc ⊢
      have c1 : T (p + 1) = 48 + x.toInt.natAbs / 10 := gseg_0 hs1
      have c2 : T (p + 1 + 1) = 48 + x.toInt.natAbs % 10 := gseg_0 (gseg_t hs1)
      have len2 : [48 + x.toInt.natAbs / 10, 48 + x.toInt.natAbs % 10].length = 2 := rfl
      rw [len2] at hp
      have dg : gdg (gch T t (p + 1)) := by rw [g1, c1]; constructor <;> omega
      have n2 : gN T t (p + 1) + 1 < t ∧ gdg (T (gN T t (p + 1) + 1)) := by
        rw [gN_id nb (by omega)]
        refine ⟨by omega, ?_⟩
        rw [c2]
        constructor <;> omega
      refine ⟨?_, ?_⟩
      · unfold gnumP
        rw [if_pos dg, if_pos n2, gN_id nb (by omega)]
        rfl
      · unfold gnumV
        rw [if_pos dg, if_pos n2, g1, c1, gN_id nb (by omega), c2]
        congr 1
        omega
  obtain ⟨n1, n2⟩ := num
  have eC : gtC T t (p + 1) = gsgn kd := by
    unfold gtC
    rw [n1, gnx, hc]
  have nin : ¬ (97 ≤ gtC T t (p + 1) ∧ gtC T t (p + 1) ≤ 100) := by rw [eC]; exact s4
  have eOK : gtOK T t (p + 1) m false = true := by
    unfold gtOK
    rw [if_neg nin, n2]
    rfl
  have ePP : gtP T t (p + 1) = p + ((gdt 4 x.toInt.natAbs).length + 1) := by
    unfold gtP gtQ
    rw [if_neg nin, n1, gN_id nb (by omega)]
  have eK : gkd (gch T t (gtP T t (p + 1))) = some kd := by rw [ePP, gnx, hc, s5]
  rw [gcb_kd eOK eK, ePP, gN_id nb (by omega)]
  have eX : gtX T t (p + 1) (gsS (gsc x)) row = upd row 4 x := by
    unfold gtX
    rw [if_neg nin, n2]
    show upd row 4 (gsS (gsc x) * nI x.toInt.natAbs) = _
    rw [gsS_gsc (by omega)]
  rw [eX]
/-- a constraint from a term on -/
theorem gcl_text (nb : ∀ i, i < t → ¬ T i = 32) {c : Nat → Int32} {kd : Nat} (hkd : kd ≤ 4) (h5 : c 5 = nI kd) (h99 : (c 4).toInt.natAbs ≤ 99) (h9 : ∀ v, v < 4 → (c v).toInt.natAbs ≤ 9) : ∀ d, d ≤ 4 → ∀ F p m first row, d < F → m < 2 ^ (4 - d) → gseg T p (gtr c d) → p + (gtr c d).length ≤ t → (∀ j, j < 4 - d → row j = c j) → (∀ j, 4 - d ≤ j → row j = 0) → (gcl T t F first p m false row).1 = true ∧ (gcl T t F first p m false row).2.1 = p + (gtr c d).length ∧ ∀ j, j < 6 → (gcl T t F first p m false row).2.2 j = c j := by
  -- the letter that stands ahead of what is left
  have head : ∀ d, d ≤ 4 → ∀ p, gseg T p (gtr c d) → (T p = 43 ∨ T p = 45) ∧ 0 < (gtr c d).length := by
    intro d
    induction d with
    | zero =>
      intro _ p hs
      have e : gtm 4 (c 4) = gsc (c 4) :: gdt 4 (c 4).toInt.natAbs := if_neg (fun z => z.2 rfl)
      have hs : gseg T p (gtm 4 (c 4) ++ [gsgn (gkf (c 5))]) := hs
      rw [e] at hs
      have : (gtr c 0).length = (gtm 4 (c 4) ++ [gsgn (gkf (c 5))]).length := rfl
      refine ⟨by rw [gseg_0 hs]; exact gsc_rng _, ?_⟩
      rw [this, e, List.length_append, List.length_cons]
      omega
    | succ d ih =>
      intro hd p hs
      have hs : gseg T p (gtm (3 - d) (c (3 - d)) ++ gtr c d) := hs
      have el : (gtr c (d + 1)).length = (gtm (3 - d) (c (3 - d)) ++ gtr c d).length := rfl
      by_cases e0 : c (3 - d) = 0
      · have e : gtm (3 - d) (c (3 - d)) = [] := if_pos ⟨e0, by omega⟩
        rw [e, List.nil_append] at hs el
        rw [el]
        exact ih (by omega) p hs
      · have e : gtm (3 - d) (c (3 - d)) = gsc (c (3 - d)) :: gdt (3 - d) (c (3 - d)).toInt.natAbs := if_neg (fun z => e0 z.1)
        rw [e] at hs
        refine ⟨by rw [gseg_0 hs]; exact gsc_rng _, ?_⟩
        rw [el, e, List.length_append, List.length_cons]
        omega
  intro d
  induction d with
  | zero =>
    intro _ F p m first row hF hm hs hp hr hr0
    obtain ⟨F, rfl⟩ : ∃ G, F = G + 1 := ⟨F - 1, by omega⟩
    have hs : gseg T p (gtm 4 (c 4) ++ [gsgn (gkf (c 5))]) := hs
    have hl : (gtr c 0).length = (gtm 4 (c 4)).length + 1 := by
      show (gtm 4 (c 4) ++ [gsgn (gkf (c 5))]).length = _
      rw [List.length_append]
      rfl
    obtain ⟨hs1, hs2⟩ := gseg_app hs
    have hc : T (p + (gtm 4 (c 4)).length) = gsgn kd := by
      rw [gseg_0 hs2, h5, gkf_nI hkd]
    rw [gcl_rest nb hkd h99 hs1 (by omega) hc]
    refine ⟨rfl, by rw [hl]; rfl, fun j hj => ?_⟩
    show upd (upd row 4 (c 4)) 5 (nI kd) j = c j
    by_cases e5 : j = 5
    · rw [e5, pk_us, h5]
    · rw [pk_un e5]
      by_cases e4 : j = 4
      · rw [e4, pk_us]
      · rw [pk_un e4]
        exact hr j (by omega)
  | succ d ih =>
    intro hd F p m first row hF hm hs hp hr hr0
    have hs : gseg T p (gtm (3 - d) (c (3 - d)) ++ gtr c d) := hs
    have el : (gtr c (d + 1)).length = (gtm (3 - d) (c (3 - d))).length + (gtr c d).length := by
      show (gtm (3 - d) (c (3 - d)) ++ gtr c d).length = _
      exact List.length_append
    have e4 : 4 - (d + 1) = 3 - d := by omega
    have e4' : 4 - d = 3 - d + 1 := by omega
    rw [e4] at hm hr hr0
    by_cases e0 : c (3 - d) = 0
    · have e : gtm (3 - d) (c (3 - d)) = [] := if_pos ⟨e0, by omega⟩
      rw [e, List.nil_append] at hs
      rw [e, List.length_nil, Nat.zero_add] at el
      rw [el]
      refine ih (by omega) F p m first row (by omega) (by rw [e4', Nat.pow_succ]; omega) hs (by omega) (fun j hj => ?_) (fun j hj => hr0 j (by omega))
      by_cases ej : j = 3 - d
      · rw [ej, e0]; exact hr0 _ (Nat.le_refl _)
      · exact hr j (by omega)
    · obtain ⟨F, rfl⟩ : ∃ G, F = G + 1 := ⟨F - 1, by omega⟩
      obtain ⟨hs1, hs2⟩ := gseg_app hs
      obtain ⟨hh1, hh2⟩ := head d (by omega) _ hs2
      rw [gcl_let nb (by omega) e0 (h9 _ (by omega)) hs1 (by omega) hm hh1]
      rw [el]
      have := ih (by omega) F (p + (gtm (3 - d) (c (3 - d))).length) (m ||| 2 ^ (3 - d)) false (upd row (3 - d) (c (3 - d))) (by omega) (by
        rw [e4']
        exact Nat.or_lt_two_pow (Nat.lt_of_lt_of_le hm (Nat.pow_le_pow_right (by decide) (by omega))) (Nat.pow_lt_pow_right (by decide) (by omega))) hs2 (by omega) (fun j hj => by
        by_cases ej : j = 3 - d
        · rw [ej, pk_us]
        · rw [pk_un ej]; exact hr j (by omega)) (fun j hj => by rw [pk_un (by omega)]; exact hr0 j (by omega))
      rw [← Nat.add_assoc]
      exact this
/-- a system from a constraint on -/
theorem gsy_text (nb : ∀ i, i < t → ¬ T i = 32) {n : Nat} {C : Nat → Nat → Int32} (hn : n ≤ 8) (hR : gRC n C) : ∀ d, d ≤ n → ∀ F p R, d < F → gseg T p (gtz C n d) → p + (gtz C n d).length = t → (∀ i, i < n - d → ∀ j, j < 6 → R i j = C i j) → (gsy T t F (n - d) p R).1 = true ∧ (gsy T t F (n - d) p R).2.2.1 = n ∧ ∀ i, i < n → ∀ j, j < 6 → (gsy T t F (n - d) p R).2.2.2 i j = C i j := by
  intro d
  induction d with
  | zero =>
    intro _ F p R hF hs hp hr
    obtain ⟨F, rfl⟩ : ∃ G, F = G + 1 := ⟨F - 1, by omega⟩
    have hpt : p = t := by
      have : (gtz C n 0).length = 0 := rfl
      omega
    have g : gch T t p = 0 := by
      unfold gch
      rw [gN_id nb (by omega), if_neg (by omega)]
    rw [gsy_end g]
    exact ⟨rfl, rfl, fun i hi j hj => hr i hi j hj⟩
  | succ d ih =>
    intro hd F p R hF hs hp hr
    obtain ⟨F, rfl⟩ : ∃ G, F = G + 1 := ⟨F - 1, by omega⟩
    have hs : gseg T p ((59 :: gtr (C (n - 1 - d)) 4) ++ gtz C n d) := hs
    have el : (gtz C n (d + 1)).length = (gtr (C (n - 1 - d)) 4).length + 1 + (gtz C n d).length := by
      show ((59 :: gtr (C (n - 1 - d)) 4) ++ gtz C n d).length = _
      rw [List.length_append, List.length_cons]
    obtain ⟨hs1, hs2⟩ := gseg_app hs
    have c0 := gseg_0 hs1
    have hs3 := gseg_t hs1
    rw [List.length_cons] at hs2
    have g : gch T t p = 59 := by rw [gch_id nb (by omega), c0]
    have hk : n - 1 - d < n := by omega
    obtain ⟨h99, h9⟩ := gRC_abs hR hk
    obtain ⟨-, -, kd, hkd4, hkd⟩ := hR (n - 1 - d) hk
    have tx := gcl_text nb hkd4 hkd (h99 4 (by decide)) h9 4 (Nat.le_refl _) 131 (p + 1) 0 true (fun _ => 0) (by decide) (by decide) hs3 (by omega) (fun j hj => absurd hj (Nat.not_lt_zero j)) (fun _ _ => rfl)
    obtain ⟨t1, t2, t3⟩ := tx
    have ek : n - (d + 1) = n - 1 - d := by omega
    have ok : (gco T t (gN T t p + 1)).1 = true := by
      rw [gN_id nb (by omega)]
      exact t1
    rw [ek, gsy_go g (by omega) ok, gN_id nb (by omega)]
    have e2 : (gco T t (p + 1)).2.1 = p + ((gtr (C (n - 1 - d)) 4).length + 1) := by
      show (gcl T t 131 true (p + 1) 0 false (fun _ => 0)).2.1 = _
      rw [t2]
      omega
    rw [e2, show n - 1 - d + 1 = n - d by omega]
    refine ih (by omega) F _ _ (by omega) hs2 (by omega) (fun i hi j hj => ?_)
    by_cases e : i = n - 1 - d
    · rw [e, gset_s]
      exact t3 j hj
    · rw [gset_n e]
      exact hr i (by omega) j hj
end RD
