/-! the tape read: by the model; a system -/
def gco (T : Nat → Nat) (t p : Nat) : Bool × Nat × (Nat → Int32) := gcl T t 131 true p 0 false (fun _ => 0)
theorem s_X11_reads {T : Nat → Nat} {t p a : Nat} {told : Int32} {tape rd : Nat → Int32} {Q : Int32 → Int32 → Int32 → (Nat → Int32) → Prop} (hT : gTx T t tape) (hp : p ≤ t) (hp1 : 1 ≤ p) (ha : a + 6 ≤ 48)
    (h1 : (gco T t p).1 = true → ∀ y c', (∀ i, i < 6 → c' (a + i) = (gco T t p).2.2 i) → (∀ q, q < a → c' q = rd q) → Q 1 (nI (gco T t p).2.1) y c')
    (h0 : ¬ (gco T t p).1 = true → ∀ y1 y2, Q 0 (nI (gco T t p).2.1) y1 y2) : p_X11_reads (nI t) (nI p) told rd tape (nI a) Q := by
  have ht := hT.1
  have hcl : gch T t p ≤ 126 := gch_lt hT
  have hb := gN_bd (T := T) hp
  have hsb := gsP_bd hT hp
  unfold p_X11_reads
  refine gi2_inv 5 (fun i x c => x = nI i ∧ (∀ j, j < i → c (a + j) = 0) ∧ ∀ q, q < a → c q = rd q) ?_ ?_ ⟨rfl, fun j hj => absurd hj (Nat.not_lt_zero j), fun _ _ => rfl⟩
  · rintro i hi X x c ⟨rfl, c1, c2⟩ hX
    unfold p_X11_reads_7
    have ex : nI a + nI i = nI (a + i) := nI_add _ _
    refine ⟨fun g => ?_, fun _ => ⟨gx_in _ ex (by omega) (by decide), ?_⟩⟩
    · rw [gl_5, nI_leI (by decide) (by omega)] at g; omega
    · rw [gx_cl _ ex (by omega)]
      refine hX _ _ ⟨nI_add i 1, fun j hj => ?_, fun q hq => ?_⟩
      · by_cases e : j = i
        · subst e; rw [pk_us]
        · rw [pk_un (by omega)]; exact c1 j (by omega)
      · rw [pk_un (by omega)]; exact c2 q hq
  · rintro X x c ⟨rfl, c1, c2⟩
    have main : ∀ c : Nat → Int32, (∀ j, j < 5 → c (a + j) = 0) → (∀ q, q < a → c q = rd q) → ∃ n, gi5 (p_X11_reads_76 (nI t) tape (nI a) Q) n (gsS (gch T t p)) (1 : Int32) (nI (gsP T t p)) (0 : Int32) c := by
      intro c c1 c2
      refine gi5_inv 132 (fun i x2 x3 pl td r => (x3 = 1 ∧ ∃ p1 m rt row, pl = nI p1 ∧ td = nI (m + (if rt = true then 16 else 0)) ∧ p + i ≤ p1 ∧ p1 ≤ t ∧ m < 16 ∧ (∀ j, j < 6 → j ≠ 5 → r (a + j) = row j) ∧ (∀ q, q < a → r q = rd q) ∧ gco T t p = gcb T t (130 - i) p1 x2 m rt row) ∨ (x3 = 0 ∧ i ≤ 131 ∧ ∃ p1 row, pl = nI p1 ∧ p1 ≤ t ∧ gN T t p1 = p1 ∧ (∀ j, j < 6 → j ≠ 5 → r (a + j) = row j) ∧ (∀ q, q < a → r q = rd q) ∧ (∀ kd, gkd (gch T t p1) = some kd → gco T t p = (true, p1 + 1, upd row 5 (nI kd))) ∧ (gkd (gch T t p1) = none → (gco T t p).1 = false ∧ (gco T t p).2.1 = p1))) ?_ ?_ (Or.inl ⟨rfl, gsP T t p, 0, false, fun _ => 0, rfl, rfl, hsb.1, hsb.2, by decide, fun j hj h5 => c1 j (by omega), c2, ?_⟩)
      · rintro i hi Y x2 x3 pl td r hI hY
        unfold p_X11_reads_76
        rcases hI with ⟨rfl, p1, m, rt, row, rfl, rfl, k1, k2, k3, k4, k5, k6⟩ | ⟨rfl, -, p1, row, rfl, k1, k2, k3, k4, k5, k6⟩
        · refine ⟨g10, fun _ => s_X11_readsTerm hT k2 ha k3 k4 (fun ok c' g1 g2 => ⟨g10, fun _ => ?_⟩) (fun ok y1 y2 => ⟨fun _ => ?_, g00⟩)⟩
          · have hpb := gtP_bd hT k2 ok
            have hnb := gN_bd (T := T) hpb.2
            have hid := gN_idem (T := T) hpb.2
            have hchn := gch_N (T := T) hpb.2
            have hc2 : gch T t (gtP T t p1) ≤ 126 := gch_lt hT
            have hfu : 130 - i = (130 - (i + 1)) + 1 := by omega
            have keep : ∀ q, q < a → c' q = rd q := fun q hq => by rw [g2 q hq, k5 q hq]
            refine s_X11_here hT hpb.2 ?_
            rw [show (43 : Int32) = nI 43 from rfl, show (45 : Int32) = nI 45 from rfl, nI_eq (by omega) (by decide), nI_eq (by omega) (by decide)]
            have sign : (gch T t (gtP T t p1) = 43 ∨ gch T t (gtP T t p1) = 45) → p_X11_reads_111 (nI (gN T t (gtP T t p1))) (nI (gtM T t p1 m + (if gtR T t p1 rt = true then 16 else 0))) c' (nI (gch T t (gtP T t p1))) Y := by
              intro z
              have hk : gkd (gch T t (gtP T t p1)) = none := by rcases z with z | z <;> (rw [z]; rfl)
              have hso : gsO (gch T t (gN T t (gtP T t p1))) false = true := by
                unfold gsO
                rw [hchn, decide_eq_true z]
                rfl
              have hsp : gsP T t (gN T t (gtP T t p1)) = gN T t (gtP T t p1) + 1 := by
                unfold gsP
                rw [hchn, if_pos z, hid]
              rw [gcb_go ok hk, hfu, gcl_yes hso, hsp, hchn] at k6
              have eP : nI (gN T t (gtP T t p1)) + (1 : Int32) = nI (gN T t (gtP T t p1) + 1) := nI_add _ 1
              have hlt : gN T t (gtP T t p1) < t := by
                by_cases y : gN T t (gtP T t p1) < t
                · exact y
                · have := (gch_0 hT).mpr y
                  omega
              unfold p_X11_reads_111 p_X11_reads_116 p_X11_reads_129 p_X11_reads_144
              rw [show (45 : Int32) = nI 45 from rfl, nI_eq (by omega) (by decide), eP]
              refine ⟨fun y => ⟨g10, fun _ => hY _ _ _ _ _ (Or.inl ⟨rfl, _, _, _, _, rfl, rfl, by omega, by omega, gtM_lt k3, g1, keep, ?_⟩)⟩, fun y => ⟨g10, fun _ => hY _ _ _ _ _ (Or.inl ⟨rfl, _, _, _, _, rfl, rfl, by omega, by omega, gtM_lt k3, g1, keep, ?_⟩)⟩⟩
              · rw [k6]
                unfold gsS
                rw [if_pos y]
              · rw [k6]
                unfold gsS
                rw [if_neg y]
            refine ⟨fun z => sign (Or.inl z), fun z1 => ⟨fun z => sign (Or.inr z), fun z2 => ?_⟩⟩
            have z : ¬ (gch T t (gtP T t p1) = 43 ∨ gch T t (gtP T t p1) = 45) := fun y => y.elim z1 z2
            have hso : ¬ gsO (gch T t (gN T t (gtP T t p1))) false = true := by
              unfold gsO
              rw [hchn, decide_eq_false z]
              decide
            have goB : ∀ x2 : Int32, Y x2 (0 : Int32) (nI (gN T t (gtP T t p1)) + (0 : Int32)) (nI (gtM T t p1 m + (if gtR T t p1 rt = true then 16 else 0))) c' := by
              intro x2'
              refine hY _ _ _ _ _ (Or.inr ⟨rfl, by omega, gN T t (gtP T t p1), gtX T t p1 x2 row, Int32.add_zero _, hnb.2, hid, g1, keep, fun kd hk => ?_, fun hk => ?_⟩)
              · rw [hchn] at hk
                rw [k6, gcb_kd ok hk]
              · rw [hchn] at hk
                rw [k6, gcb_go ok hk, hfu, gcl_no hso, hid]
                exact ⟨rfl, rfl⟩
            unfold p_X11_reads_116 p_X11_reads_129 p_X11_reads_144
            exact ⟨fun _ => ⟨fun _ => goB _, g00⟩, fun _ => ⟨fun _ => goB _, g00⟩⟩
          · rw [gcb_no ok] at k6
            rw [k6] at h0
            exact h0 Bool.false_ne_true _ _
        · refine ⟨fun _ => s_X11_here hT k1 (s_kindBy (by have := gch_lt (p := p1) hT; omega) ?_), g00⟩
          have ex : nI a + (5 : Int32) = nI (a + 5) := nI_add _ 5
          rw [gx_cl _ ex (by omega), pk_us, k2]
          refine ⟨gx_in _ ex (by omega) (by decide), gx_in _ ex (by omega) (by decide), ?_⟩
          unfold p_X11_reads_187
          rw [gx_cl _ ex (by omega), pk_us]
          have eP : nI p1 + (1 : Int32) = nI (p1 + 1) := nI_add _ 1
          rw [eP, Int32.add_zero]
          cases hk : gkd (gch T t p1) with
          | none =>
            obtain ⟨w1, w2⟩ := k6 hk
            rw [w1, w2] at h0
            refine ⟨fun z => absurd z (by decide), fun _ => ⟨gx_in _ ex (by omega) (by decide), fun _ => h0 (by decide) _ _, fun z => absurd (by decide) z⟩⟩
          | some kd =>
            have w := k5 kd hk
            have hk4 := gkd_le hk
            rw [w] at h1
            refine ⟨fun _ => ⟨gx_in _ ex (by omega) (by decide), fun z => absurd z (nI_pos (by omega)), fun _ => h1 rfl _ _ (fun i hi => ?_) (fun q hq => by rw [pk_un (by omega)]; exact k4 q hq)⟩, fun z => absurd (nI_pos' (by omega)) z⟩
            by_cases e : i = 5
            · subst e
              rw [pk_us]
              show gnv (some kd) = upd row 5 (nI kd) 5
              rw [pk_us]
              rfl
            · rw [pk_un (by omega), k3 i hi e]
              show row i = upd row 5 (nI kd) i
              rw [pk_un e]
      · rintro Y x2 x3 pl td r hI
        rcases hI with ⟨rfl, p1, m, rt, row, rfl, rfl, k1, k2, k3, k4, k5, k6⟩ | ⟨rfl, k0, -⟩
        · omega
        · omega
      · have hso : gsO (gch T t p) true = true := by unfold gsO; rw [Bool.or_true]
        exact gcl_yes hso
    unfold p_X11_reads_7
    refine ⟨fun _ => s_X11_here hT hp ?_, fun g => absurd (by decide) g⟩
    have f41 : ∀ s0 : Int32, s0 = gsS (gch T t p) → p_X11_reads_41 (nI t) (nI (gN T t p)) (0 : Int32) c tape (nI a) s0 Q := by
      intro s0 hs0
      subst hs0
      have hm := main c c1 c2
      have eP : nI (gN T t p) + (1 : Int32) = nI (gN T t p + 1) := nI_add _ 1
      unfold p_X11_reads_41 p_X11_reads_67 p_X11_reads_72
      refine s_X11_here hT hb.2 ?_
      rw [gch_N hp, show (45 : Int32) = nI 45 from rfl, nI_eq (by omega) (by decide), eP, Int32.add_zero]
      refine ⟨fun z => ?_, fun z => s_X11_here hT (by rw [gN_idem hp]; exact hb.2) ?_⟩
      · have e : gsP T t p = gN T t p + 1 := if_pos (Or.inr z)
        rw [e] at hm
        exact hm
      · rw [gN_idem hp, gch_N hp, show (43 : Int32) = nI 43 from rfl, nI_eq (by omega) (by decide)]
        refine ⟨fun y => ?_, fun y => ?_⟩
        · have e : gsP T t p = gN T t p + 1 := if_pos (Or.inl y)
          rw [e] at hm
          exact hm
        · have e : gsP T t p = gN T t p := if_neg (fun w => w.elim y z)
          rw [e] at hm
          exact hm
    rw [show (45 : Int32) = nI 45 from rfl, nI_eq (by omega) (by decide)]
    exact ⟨fun z => f41 _ (if_pos z).symm, fun z => f41 _ (if_neg z).symm⟩
/-! what is told is right -/
def gpok (row : Nat → Int32) : Prop := (∀ j, j < 4 → -9 ≤ (row j).toInt ∧ (row j).toInt ≤ 9) ∧ (-99 ≤ (row 4).toInt ∧ (row 4).toInt ≤ 99)
theorem gm_sgn {c v : Nat} {b : Nat} (hv : v ≤ b) (hb : b < 1000) : -(b : Int) ≤ (gsS c * nI v).toInt ∧ (gsS c * nI v).toInt ≤ b := by
  unfold gsS
  split
  · rw [Int32.toInt_mul, nI_toInt (by omega), show (-1 : Int32).toInt = -1 from rfl, gm_bm (by omega) (by omega)]
    omega
  · rw [Int32.one_mul, nI_toInt (by omega)]
    omega
theorem gtX_ok {T : Nat → Nat} {t p m c : Nat} {rt : Bool} {row letters : Nat → Int32} (hT : gTx T t letters) (hp : p ≤ t) (ok : gtOK T t p m rt = true) (h : gpok row) : gpok (gtX T t p (gsS c) row) := by
  have hb := gnumP_bd hT hp
  unfold gtOK at ok
  unfold gtX
  by_cases g : 97 ≤ gtC T t p ∧ gtC T t p ≤ 100
  · rw [if_pos g, Bool.and_eq_true] at ok
    rw [if_pos g]
    have hv : -9 ≤ (gsS c * gone (gnumV T t p)).toInt ∧ (gsS c * gone (gnumV T t p)).toInt ≤ 9 := by
      cases hv : gnumV T t p with
      | none => exact gm_sgn (v := 1) (b := 9) (by decide) (by decide)
      | some v =>
        rw [hv] at ok
        have : v ≤ 9 := of_decide_eq_true ok.1
        exact gm_sgn (v := v) (b := 9) this (by decide)
    refine ⟨fun j hj => ?_, ?_⟩
    · by_cases e : j = gtC T t p - 97
      · subst e; rw [pk_us]; exact hv
      · rw [pk_un e]; exact h.1 j hj
    · rw [pk_un (by omega)]; exact h.2
  · rw [if_neg g, Bool.and_eq_true] at ok
    rw [if_neg g]
    refine ⟨fun j hj => by rw [pk_un (by omega)]; exact h.1 j hj, ?_⟩
    rw [pk_us]
    cases hv : gnumV T t p with
    | none => rw [hv] at ok; exact absurd ok.1 (by decide)
    | some v => exact gm_sgn (v := v) (b := 99) (hb.2.2 v hv).2 (by decide)
theorem gcl_ok {T : Nat → Nat} {t : Nat} {letters : Nat → Int32} (hT : gTx T t letters) : ∀ f first p m rt row, p ≤ t → gpok row → (f = 0 → gN T t p = p) → ((gcl T t f first p m rt row).1 = true → p + 1 ≤ (gcl T t f first p m rt row).2.1 ∧ (gcl T t f first p m rt row).2.1 ≤ t ∧ gpok (gcl T t f first p m rt row).2.2 ∧ ∃ kd, kd ≤ 4 ∧ (gcl T t f first p m rt row).2.2 5 = nI kd) ∧ (¬ (gcl T t f first p m rt row).1 = true → (gcl T t f first p m rt row).2.1 ≤ t ∧ gN T t (gcl T t f first p m rt row).2.1 = (gcl T t f first p m rt row).2.1) := by
  intro f
  induction f with
  | zero =>
    intro first p m rt row hp _ h0
    exact ⟨fun z => absurd z Bool.false_ne_true, fun _ => ⟨hp, h0 rfl⟩⟩
  | succ f ih =>
    intro first p m rt row hp hrow _
    by_cases ho : gsO (gch T t p) first = true
    · have hsb := gsP_bd hT hp
      rw [gcl_yes ho]
      by_cases ok : gtOK T t (gsP T t p) m rt = true
      · have hpb := gtP_bd hT hsb.2 ok
        have hnb := gN_bd (T := T) hpb.2
        have hx := gtX_ok (c := gch T t p) hT hsb.2 ok hrow
        cases hk : gkd (gch T t (gtP T t (gsP T t p))) with
        | none =>
          rw [gcb_go ok hk]
          have := ih false (gN T t (gtP T t (gsP T t p))) (gtM T t (gsP T t p) m) (gtR T t (gsP T t p) rt) _ hnb.2 hx (fun _ => gN_idem hpb.2)
          refine ⟨fun z => ?_, this.2⟩
          obtain ⟨q1, q2, q3⟩ := this.1 z
          exact ⟨by omega, q2, q3⟩
        | some kd =>
          rw [gcb_kd ok hk]
          have hlt := gkd_lt hT hk
          have hx' : gpok (upd (gtX T t (gsP T t p) (gsS (gch T t p)) row) 5 (nI kd)) := by
            refine ⟨fun j hj => ?_, ?_⟩
            · rw [pk_un (by omega)]; exact hx.1 j hj
            · rw [pk_un (by decide)]; exact hx.2
          have h5 : upd (gtX T t (gsP T t p) (gsS (gch T t p)) row) 5 (nI kd) 5 = nI kd := pk_us
          have hpl : p + 1 ≤ gN T t (gtP T t (gsP T t p)) + 1 := by omega
          exact ⟨fun _ => ⟨hpl, hlt, hx', kd, gkd_le hk, h5⟩, fun z => absurd rfl z⟩
      · rw [gcb_no ok]
        have hgb := gt_bd hT hsb.2
        exact ⟨fun z => absurd z Bool.false_ne_true, fun _ => ⟨hgb.2.1, gN_idem (gnumP_bd hT hsb.2).2.1⟩⟩
    · rw [gcl_no ho]
      exact ⟨fun z => absurd z Bool.false_ne_true, fun _ => ⟨(gN_bd (T := T) hp).2, gN_idem hp⟩⟩
theorem gco_ok {T : Nat → Nat} {t p : Nat} {letters : Nat → Int32} (hT : gTx T t letters) (hp : p ≤ t) : ((gco T t p).1 = true → p + 1 ≤ (gco T t p).2.1 ∧ (gco T t p).2.1 ≤ t ∧ gpok (gco T t p).2.2 ∧ ∃ kd, kd ≤ 4 ∧ (gco T t p).2.2 5 = nI kd) ∧ (¬ (gco T t p).1 = true → (gco T t p).2.1 ≤ t ∧ gN T t (gco T t p).2.1 = (gco T t p).2.1) :=
  gcl_ok hT 131 true p 0 false (fun _ => 0) hp ⟨fun _ _ => (by decide : (-9 : Int) ≤ (0 : Int32).toInt ∧ (0 : Int32).toInt ≤ 9), (by decide : (-99 : Int) ≤ (0 : Int32).toInt ∧ (0 : Int32).toInt ≤ 99)⟩ (fun z => absurd z (by decide))
