/-! the tape read: terms -/
def gtC (T : Nat → Nat) (t p : Nat) : Nat := gch T t (gnumP T t p)
def gtQ (T : Nat → Nat) (t p : Nat) : Nat := gN T t (gnumP T t p)
def gle9 : Option Nat → Bool
  | none => true
  | some v => decide (v ≤ 9)
def gone : Option Nat → Int32
  | none => 1
  | some v => nI v
def gtOK (T : Nat → Nat) (t p m : Nat) (rt : Bool) : Bool := if 97 ≤ gtC T t p ∧ gtC T t p ≤ 100 then gle9 (gnumV T t p) && decide (m / 2 ^ (gtC T t p - 97) % 2 = 0) else (gnumV T t p).isSome && !rt
def gtP (T : Nat → Nat) (t p : Nat) : Nat := if 97 ≤ gtC T t p ∧ gtC T t p ≤ 100 then gtQ T t p + 1 else gtQ T t p
def gtM (T : Nat → Nat) (t p m : Nat) : Nat := if 97 ≤ gtC T t p ∧ gtC T t p ≤ 100 then m ||| 2 ^ (gtC T t p - 97) else m
def gtR (T : Nat → Nat) (t p : Nat) (rt : Bool) : Bool := if 97 ≤ gtC T t p ∧ gtC T t p ≤ 100 then rt else true
def gtX (T : Nat → Nat) (t p : Nat) (sgn : Int32) (row : Nat → Int32) : Nat → Int32 := if 97 ≤ gtC T t p ∧ gtC T t p ≤ 100 then upd row (gtC T t p - 97) (sgn * gone (gnumV T t p)) else upd row 4 (sgn * gnv (gnumV T t p))
theorem gt_bd {T : Nat → Nat} {t p : Nat} {letters : Nat → Int32} (hT : gTx T t letters) (hp : p ≤ t) : p ≤ gtQ T t p ∧ gtQ T t p ≤ t ∧ (97 ≤ gtC T t p → gtQ T t p < t) := by
  have h1 := gnumP_bd hT hp
  have h2 := gN_bd (T := T) h1.2.1
  refine ⟨by unfold gtQ; omega, by unfold gtQ; omega, fun z => ?_⟩
  unfold gtQ
  by_cases y : gN T t (gnumP T t p) < t
  · exact y
  · have := (gch_0 hT).mpr y
    unfold gtC at z
    omega
theorem gtP_bd {T : Nat → Nat} {t p m : Nat} {rt : Bool} {letters : Nat → Int32} (hT : gTx T t letters) (hp : p ≤ t) (h : gtOK T t p m rt = true) : p + 1 ≤ gtP T t p ∧ gtP T t p ≤ t := by
  have h1 := gnumP_bd hT hp
  have h2 := gN_bd (T := T) h1.2.1
  have h3 := gt_bd hT hp
  unfold gtP
  unfold gtOK at h
  split
  · rename_i g
    have := h3.2.2 g.1
    omega
  · rename_i g
    rw [if_neg g, Bool.and_eq_true] at h
    cases hv : gnumV T t p with
    | none => rw [hv] at h; exact absurd h.1 (by decide)
    | some v =>
      have := h1.2.2 v hv
      unfold gtQ at *
      omega
theorem gnv_neg (o : Option Nat) (ho : ∀ v, o = some v → v ≤ 99) : (0 ≤ gnv o) ↔ o.isSome = true := by
  cases o with
  | none => exact ⟨fun z => absurd z (by decide), fun z => absurd z (by decide)⟩
  | some v =>
    have := ho v rfl
    exact ⟨fun _ => rfl, fun _ => nI_pos' (by omega)⟩
theorem gnv_9 (o : Option Nat) (ho : ∀ v, o = some v → v ≤ 99) : ((9 : Int32) < gnv o) ↔ ¬ gle9 o = true := by
  cases o with
  | none => exact ⟨fun z => absurd z (by decide), fun z => absurd rfl z⟩
  | some v =>
    have := ho v rfl
    show (9 : Int32) < nI v ↔ ¬ decide (v ≤ 9) = true
    rw [gl_9, nI_ltI (by decide) (by omega), decide_eq_true_eq]
    omega
theorem gx_97 {c : Nat} (h : 97 ≤ c) : nI c - (97 : Int32) = nI (c - 97) := pk_sub (b := 97) h
theorem s_X9_set {k j : Nat} {ch v : Int32} {cells row : Nat → Int32} {Q : Int32 → (Nat → Int32) → Prop} (hk : k < 8) (hj : j < 6) (hrow : ∀ i, i < 6 → cells (6 * k + i) = row i) (hQ : ∀ ch' c', (∀ i, i < 6 → c' (6 * k + i) = upd row j v i) → (∀ q, q < 6 * k → c' q = cells q) → Q ch' c') : p_X9_setCell ch cells (nI k) (nI j) v Q := by
  unfold p_X9_setCell
  refine ⟨gx_in _ (gx_6 k j) (by omega) (by decide), ?_⟩
  rw [gx_cl _ (gx_6 k j) (by omega)]
  refine hQ _ _ (fun i hi => ?_) (fun q hq => pk_un (by omega))
  by_cases e : i = j
  · subst e; rw [pk_us, pk_us]
  · rw [pk_un (by omega), pk_un e]; exact hrow i hi
theorem s_X8_putTerm {T : Nat → Nat} {t p m k : Nat} {rt : Bool} {sgn ch : Int32} {letters cells row : Nat → Int32} {Q : Int32 → Int32 → Int32 → Int32 → Int32 → (Nat → Int32) → Prop} (hT : gTx T t letters) (hp : p ≤ t) (hk : k < 8) (hm : m < 16) (hrow : ∀ i, i < 6 → cells (6 * k + i) = row i)
    (h1 : gtOK T t p m rt = true → ∀ ch' c', (∀ i, i < 6 → c' (6 * k + i) = gtX T t p sgn row i) → (∀ q, q < 6 * k → c' q = cells q) → Q 1 (nI (gtP T t p)) (nI (gtM T t p m)) (if gtR T t p rt = true then 1 else 0) ch' c')
    (h0 : ¬ gtOK T t p m rt = true → ∀ y1 y2 y3 y4, Q 0 (nI (gtQ T t p)) y1 y2 y3 y4) : p_X8_putTerm (nI t) (nI (gnumP T t p)) (nI m) (if rt = true then 1 else 0) letters (nI k) ch cells (gnv (gnumV T t p)) sgn Q := by
  have hb := gnumP_bd hT hp
  have hv99 : ∀ v, gnumV T t p = some v → v ≤ 99 := fun v hv => (hb.2.2 v hv).2
  have hcl : gtC T t p ≤ 126 := gch_lt hT
  have hqb := gt_bd hT hp
  have ht := hT.1
  unfold p_X8_putTerm
  refine s_X8_next hT hb.2.1 ?_
  rw [show gch T t (gnumP T t p) = gtC T t p from rfl, show gN T t (gnumP T t p) = gtQ T t p from rfl]
  by_cases hc : 97 ≤ gtC T t p ∧ gtC T t p ≤ 100
  · unfold gtOK gtP gtM gtR gtX at h1
    unfold gtOK at h0
    rw [if_pos hc] at h0
    rw [if_pos hc, if_pos hc, if_pos hc, if_pos hc, if_pos hc] at h1
    rw [if_neg (by omega), gx_97 hc.1]
    have hv4 : gtC T t p - 97 < 4 := by omega
    refine s_oR_in (n := 4) hv4 (by decide) rfl ⟨fun _ => ?_, g00⟩
    rw [gnv_9 _ hv99, gnv_neg _ hv99, gm_bit (by omega) (by omega)]
    refine ⟨fun g => h0 (fun z => ?_) _ _ _ _, fun g => ⟨fun g2 => h0 (fun z => ?_) _ _ _ _, fun g2 => ?_⟩⟩
    · rw [Bool.and_eq_true] at z
      exact g z.1
    · rw [Bool.and_eq_true, decide_eq_true_eq] at z
      rw [z.2] at g2
      exact absurd g2 (by decide)
    · have ok : (gle9 (gnumV T t p) && decide (m / 2 ^ (gtC T t p - 97) % 2 = 0)) = true := by
        rw [Bool.and_eq_true, decide_eq_true_eq]
        refine ⟨Decidable.byContradiction g, ?_⟩
        rcases gm_b01 m (gtC T t p - 97) with e | e
        · exact e
        · rw [e] at g2; exact absurd rfl g2
      have eq1 : nI (gtQ T t p) + (1 : Int32) = nI (gtQ T t p + 1) := nI_add _ 1
      have fin : ∀ x : Int32, x = gone (gnumV T t p) → p_X8_putTerm_59 (nI (gtQ T t p)) (nI m) (if rt = true then 1 else 0) ch cells (nI (gtC T t p - 97)) (nI k) (nI (gtC T t p - 97)) sgn x Q := by
        intro x hx
        unfold p_X8_putTerm_59
        rw [eq1, gm_1sl _ (by omega), gm_orN, hx]
        exact s_X9_set hk (by omega) hrow (fun ch' c' g1 g2 => h1 ok ch' c' g1 g2)
      refine ⟨fun z => fin _ ?_, fun z => fin _ ?_⟩
      · cases hv : gnumV T t p with
        | none => rw [hv] at z; exact absurd z (by decide)
        | some v => rfl
      · cases hv : gnumV T t p with
        | none => rfl
        | some v => rw [hv] at z; exact absurd rfl z
  · unfold gtOK gtP gtM gtR gtX at h1
    unfold gtOK at h0
    rw [if_neg hc] at h0
    rw [if_neg hc, if_neg hc, if_neg hc, if_neg hc, if_neg hc] at h1
    have hout : ¬ ((0 : Int32).toInt ≤ ((if gtC T t p = 0 then -1 else nI (gtC T t p)) - (97 : Int32)).toInt ∧ ((if gtC T t p = 0 then -1 else nI (gtC T t p)) - (97 : Int32)).toInt ≤ (3 : Int32).toInt) := by
      by_cases e : gtC T t p = 0
      · rw [if_pos e]; decide
      · rw [if_neg e, show (97 : Int32) = nI 97 from rfl, pk_sub_toInt (by omega) (by decide)]
        show ¬ ((0 : Int) ≤ _ ∧ _ ≤ (3 : Int))
        omega
    refine s_out_out hout ⟨g10, fun _ => ?_⟩
    have hsm : (gnv (gnumV T t p) < 0) ↔ ¬ (gnumV T t p).isSome = true := by
      rw [← gnv_neg _ hv99]
      exact Int32.not_le.symm
    rw [hsm]
    refine ⟨fun g => h0 (fun z => ?_) _ _ _ _, fun g => ?_⟩
    · rw [Bool.and_eq_true] at z
      exact g z.1
    · refine s_bI (fun hr => h0 (fun z => ?_) _ _ _ _) (fun hr => ?_)
      · rw [hr, Bool.and_eq_true] at z
        exact absurd z.2 (by decide)
      · have ok : ((gnumV T t p).isSome && !rt) = true := by
          rw [Bool.not_eq_true] at hr
          rw [hr, Decidable.byContradiction (p := (gnumV T t p).isSome = true) g]
          rfl
        refine s_X9_set (j := 4) hk (by decide) hrow (fun ch' c' g1 g2 => ?_)
        have := h1 ok ch' c' g1 g2
        rw [if_pos rfl] at this
        exact this
theorem gm_told : ∀ m, m < 16 → ∀ v, v < 4 → ∀ r : Bool, (m + (if r = true then 16 else 0)) / 2 ^ v % 2 = m / 2 ^ v % 2 ∧ (m + (if r = true then 16 else 0)) ||| 2 ^ v = (m ||| 2 ^ v) + (if r = true then 16 else 0) := by decide +kernel
theorem gm_told4 : ∀ m, m < 16 → ∀ r : Bool, (m + (if r = true then 16 else 0)) / 2 ^ 4 % 2 = (if r = true then 1 else 0) ∧ (r = false → (m + (if r = true then 16 else 0)) ||| 16 = m + 16) := by decide +kernel
