/-! the tape read: by the model; a system -/
def gco (T : Nat → Nat) (t p : Nat) : Bool × Nat × (Nat → Int32) := gcl T t 131 true p 0 false (fun _ => 0)
/-! what is told is right -/
def gpok (row : Nat → Int32) : Prop := (∀ j, j < 4 → -9 ≤ (row j).toInt ∧ (row j).toInt ≤ 9) ∧ (-99 ≤ (row 4).toInt ∧ (row 4).toInt ≤ 99)
theorem gm_sgn {c v : Nat} {b : Nat} (hv : v ≤ b) (hb : b < 1000) : -(b : Int) ≤ (gsS c * nI v).toInt ∧ (gsS c * nI v).toInt ≤ b := by
  unfold gsS
  split
  · rw [Int32.toInt_mul, nI_toInt (by omega), show (-1 : Int32).toInt = -1 from rfl, gm_bm (by omega) (by omega)]
    omega
  · rw [Int32.one_mul, nI_toInt (by omega)]
    omega
theorem gtX_ok {T : Nat → Nat} {t p m c : Nat} {rt : Bool} {row letters : Nat → Int32} (hT : gTx T t letters) (hp : p ≤ t) (ok : gtOK T t p m rt = true) (h : gpok row) : gpok (gtX T t p (gsS c) row) := by
  have hb := gnumP_bd hT hp
  unfold gtOK at ok
  unfold gtX
  by_cases g : 97 ≤ gtC T t p ∧ gtC T t p ≤ 100
  · rw [if_pos g, Bool.and_eq_true] at ok
    rw [if_pos g]
    have hv : -9 ≤ (gsS c * gone (gnumV T t p)).toInt ∧ (gsS c * gone (gnumV T t p)).toInt ≤ 9 := by
      cases hv : gnumV T t p with
      | none => exact gm_sgn (v := 1) (b := 9) (by decide) (by decide)
      | some v =>
        rw [hv] at ok
        have : v ≤ 9 := of_decide_eq_true ok.1
        exact gm_sgn (v := v) (b := 9) this (by decide)
    refine ⟨fun j hj => ?_, ?_⟩
    · by_cases e : j = gtC T t p - 97
      · subst e; rw [pk_us]; exact hv
      · rw [pk_un e]; exact h.1 j hj
    · rw [pk_un (by omega)]; exact h.2
  · rw [if_neg g, Bool.and_eq_true] at ok
    rw [if_neg g]
    refine ⟨fun j hj => by rw [pk_un (by omega)]; exact h.1 j hj, ?_⟩
    rw [pk_us]
    cases hv : gnumV T t p with
    | none => rw [hv] at ok; exact absurd ok.1 (by decide)
    | some v => exact gm_sgn (v := v) (b := 99) (hb.2.2 v hv).2 (by decide)
theorem gcl_ok {T : Nat → Nat} {t : Nat} {letters : Nat → Int32} (hT : gTx T t letters) : ∀ f first p m rt row, p ≤ t → gpok row → (f = 0 → gN T t p = p) → ((gcl T t f first p m rt row).1 = true → p + 1 ≤ (gcl T t f first p m rt row).2.1 ∧ (gcl T t f first p m rt row).2.1 ≤ t ∧ gpok (gcl T t f first p m rt row).2.2 ∧ ∃ kd, kd ≤ 4 ∧ (gcl T t f first p m rt row).2.2 5 = nI kd) ∧ (¬ (gcl T t f first p m rt row).1 = true → (gcl T t f first p m rt row).2.1 ≤ t ∧ gN T t (gcl T t f first p m rt row).2.1 = (gcl T t f first p m rt row).2.1) := by
  intro f
  induction f with
  | zero =>
    intro first p m rt row hp _ h0
    exact ⟨fun z => absurd z Bool.false_ne_true, fun _ => ⟨hp, h0 rfl⟩⟩
  | succ f ih =>
    intro first p m rt row hp hrow _
    by_cases ho : gsO (gch T t p) first = true
    · have hsb := gsP_bd hT hp
      rw [gcl_yes ho]
      by_cases ok : gtOK T t (gsP T t p) m rt = true
      · have hpb := gtP_bd hT hsb.2 ok
        have hnb := gN_bd (T := T) hpb.2
        have hx := gtX_ok (c := gch T t p) hT hsb.2 ok hrow
        cases hk : gkd (gch T t (gtP T t (gsP T t p))) with
        | none =>
          rw [gcb_go ok hk]
          have := ih false (gN T t (gtP T t (gsP T t p))) (gtM T t (gsP T t p) m) (gtR T t (gsP T t p) rt) _ hnb.2 hx (fun _ => gN_idem hpb.2)
          refine ⟨fun z => ?_, this.2⟩
          obtain ⟨q1, q2, q3⟩ := this.1 z
          exact ⟨by omega, q2, q3⟩
        | some kd =>
          rw [gcb_kd ok hk]
          have hlt := gkd_lt hT hk
          have hx' : gpok (upd (gtX T t (gsP T t p) (gsS (gch T t p)) row) 5 (nI kd)) := by
            refine ⟨fun j hj => ?_, ?_⟩
            · rw [pk_un (by omega)]; exact hx.1 j hj
            · rw [pk_un (by decide)]; exact hx.2
          have h5 : upd (gtX T t (gsP T t p) (gsS (gch T t p)) row) 5 (nI kd) 5 = nI kd := pk_us
          have hpl : p + 1 ≤ gN T t (gtP T t (gsP T t p)) + 1 := by omega
          exact ⟨fun _ => ⟨hpl, hlt, hx', kd, gkd_le hk, h5⟩, fun z => absurd rfl z⟩
      · rw [gcb_no ok]
        have hgb := gt_bd hT hsb.2
        exact ⟨fun z => absurd z Bool.false_ne_true, fun _ => ⟨hgb.2.1, gN_idem (gnumP_bd hT hsb.2).2.1⟩⟩
    · rw [gcl_no ho]
      exact ⟨fun z => absurd z Bool.false_ne_true, fun _ => ⟨(gN_bd (T := T) hp).2, gN_idem hp⟩⟩
theorem gco_ok {T : Nat → Nat} {t p : Nat} {letters : Nat → Int32} (hT : gTx T t letters) (hp : p ≤ t) : ((gco T t p).1 = true → p + 1 ≤ (gco T t p).2.1 ∧ (gco T t p).2.1 ≤ t ∧ gpok (gco T t p).2.2 ∧ ∃ kd, kd ≤ 4 ∧ (gco T t p).2.2 5 = nI kd) ∧ (¬ (gco T t p).1 = true → (gco T t p).2.1 ≤ t ∧ gN T t (gco T t p).2.1 = (gco T t p).2.1) :=
  gcl_ok hT 131 true p 0 false (fun _ => 0) hp ⟨fun _ _ => (by decide : (-9 : Int) ≤ (0 : Int32).toInt ∧ (0 : Int32).toInt ≤ 9), (by decide : (-99 : Int) ≤ (0 : Int32).toInt ∧ (0 : Int32).toInt ≤ 99)⟩ (fun z => absurd z (by decide))
