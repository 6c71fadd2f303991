/-! the tape read: constraints -/
def gsO (c : Nat) (first : Bool) : Bool := decide (c = 43 ∨ c = 45) || first
def gsP (T : Nat → Nat) (t p : Nat) : Nat := if gch T t p = 43 ∨ gch T t p = 45 then gN T t p + 1 else gN T t p
def gsS (c : Nat) : Int32 := if c = 45 then -1 else 1
theorem gsP_bd {T : Nat → Nat} {t p : Nat} {letters : Nat → Int32} (hT : gTx T t letters) (hp : p ≤ t) : p ≤ gsP T t p ∧ gsP T t p ≤ t := by
  have h := gN_bd (T := T) hp
  unfold gsP
  split
  · rename_i g
    have : gN T t p < t := by
      by_cases y : gN T t p < t
      · exact y
      · have := (gch_0 hT).mpr y
        omega
    omega
  · exact h
theorem s_X8_readTerm {T : Nat → Nat} {t p m k : Nat} {rt first : Bool} {ch xf : Int32} {letters cells row : Nat → Int32} {Q : Int32 → Int32 → Int32 → Int32 → Int32 → (Nat → Int32) → Prop} (hT : gTx T t letters) (hp : p ≤ t) (hk : k < 8) (hm : m < 16) (hf : xf = if first = true then 1 else 0) (hrow : ∀ i, i < 6 → cells (6 * k + i) = row i)
    (h1 : gsO (gch T t p) first = true → gtOK T t (gsP T t p) m rt = true → ∀ ch' c', (∀ i, i < 6 → c' (6 * k + i) = gtX T t (gsP T t p) (gsS (gch T t p)) row i) → (∀ q, q < 6 * k → c' q = cells q) → Q 1 (nI (gtP T t (gsP T t p))) (nI (gtM T t (gsP T t p) m)) (if gtR T t (gsP T t p) rt = true then 1 else 0) ch' c')
    (h0 : gsO (gch T t p) first = true → ¬ gtOK T t (gsP T t p) m rt = true → ∀ y1 y2 y3 y4, Q 0 (nI (gtQ T t (gsP T t p))) y1 y2 y3 y4)
    (hn : ¬ gsO (gch T t p) first = true → ∀ y1 y2 y3 y4, Q 0 (nI (gN T t p)) y1 y2 y3 y4) : p_X8_readTerm (nI t) (nI p) (nI m) (if rt = true then 1 else 0) letters (nI k) ch cells xf Q := by
  have hcl : gch T t p ≤ 126 := gch_lt hT
  have hb := gN_bd (T := T) hp
  have hsb := gsP_bd hT hp
  have ht := hT.1
  have en : nI (gN T t p) + (1 : Int32) = nI (gN T t p + 1) := nI_add _ 1
  have hval : ∀ n : Nat, 0 < n → n < 200 → (((if gch T t p = 0 then (-1 : Int32) else nI (gch T t p)) = nI n) ↔ gch T t p = n) := by
    intro n h0 h2
    by_cases e : gch T t p = 0
    · rw [if_pos e]
      exact ⟨fun z => absurd z (gm_ne1 n (by omega)), fun z => by omega⟩
    · rw [if_neg e, nI_eq (by omega) (by omega)]
  have h43 := hval 43 (by decide) (by decide)
  have h45 := hval 45 (by decide) (by decide)
  unfold p_X8_readTerm
  refine s_X8_next hT hp ?_
  have go36 : ∀ r1 : Int32, (r1 = (45 : Int32) ↔ gch T t p = 45) → gsO (gch T t p) first = true → p_X8_readTerm_36 (nI t) (nI (gsP T t p)) (nI m) (if rt = true then 1 else 0) letters (nI k) ch cells r1 Q := by
    intro r1 hr1 ho
    unfold p_X8_readTerm_36
    refine s_X8_readNumber hT hsb.2 ?_
    have h54 : ∀ s2 : Int32, s2 = gsS (gch T t p) → p_X8_readTerm_54 (nI t) (nI (gnumP T t (gsP T t p))) (nI m) (if rt = true then 1 else 0) letters (nI k) ch cells (gnv (gnumV T t (gsP T t p))) s2 Q := by
      intro s2 hs2
      subst hs2
      unfold p_X8_readTerm_54
      exact s_X8_putTerm hT hsb.2 hk hm hrow (fun ok ch' c' g1 g2 => ⟨rfl, h1 ho ok ch' c' g1 g2⟩) (fun ok y1 y2 y3 y4 => ⟨rfl, h0 ho ok y1 y2 y3 y4⟩)
    rw [hr1]
    exact ⟨fun z => h54 _ (if_pos z).symm, fun z => h54 _ (if_neg z).symm⟩
  rw [show (43 : Int32) = nI 43 from rfl, show (45 : Int32) = nI 45 from rfl, h43, h45]
  have go17 : (gch T t p = 43 ∨ gch T t p = 45) → p_X8_readTerm_17 (nI t) (nI (gN T t p)) (nI m) (if rt = true then 1 else 0) letters (nI k) ch cells (if gch T t p = 0 then (-1 : Int32) else nI (gch T t p)) Q := by
    intro z
    unfold p_X8_readTerm_17
    have e : gsP T t p = gN T t p + 1 := if_pos z
    have ho : gsO (gch T t p) first = true := by unfold gsO; rw [decide_eq_true z, Bool.true_or]
    have := go36 _ h45 ho
    rw [e, ← en] at this
    exact this
  refine ⟨fun z => go17 (Or.inl z), fun z1 => ⟨fun z => go17 (Or.inr z), fun z2 => ?_⟩⟩
  have z : ¬ (gch T t p = 43 ∨ gch T t p = 45) := fun y => y.elim z1 z2
  rw [hf]
  refine s_bI (fun hfi => ?_) (fun hfi => ?_)
  · have ho : gsO (gch T t p) first = true := by unfold gsO; rw [hfi, Bool.or_true]
    have e : gsP T t p = gN T t p := if_neg z
    have := go36 _ h45 ho
    rw [e] at this
    exact this
  · refine hn (fun y => ?_) _ _ _ _
    unfold gsO at y
    rw [decide_eq_false z, Bool.false_or] at y
    exact hfi y
def gkd (c : Nat) : Option Nat := if c = 62 then some 0 else if c = 60 then some 1 else if c = 61 then some 2 else if c = 35 then some 3 else if c = 37 then some 4 else none
theorem gkd_le {c kd : Nat} (h : gkd c = some kd) : kd ≤ 4 := by
  unfold gkd at h
  split at h
  · have := Option.some.inj h; omega
  · split at h
    · have := Option.some.inj h; omega
    · split at h
      · have := Option.some.inj h; omega
      · split at h
        · have := Option.some.inj h; omega
        · split at h
          · have := Option.some.inj h; omega
          · cases h
theorem s_ofSign {c : Nat} {Q : Int32 → Prop} (hc : c < 200) (hQ : Q (gnv (gkd c))) : p_X1_ofSign (if c = 0 then -1 else nI c) Q := by
  have hval : ∀ n : Nat, 0 < n → n < 200 → (((if c = 0 then (-1 : Int32) else nI c) = nI n) ↔ c = n) := by
    intro n h0 h2
    by_cases e : c = 0
    · rw [if_pos e]
      exact ⟨fun z => absurd z (gm_ne1 n (by omega)), fun z => by omega⟩
    · rw [if_neg e, nI_eq (by omega) (by omega)]
  have a1 := hval 35 (by decide) (by decide)
  have a2 := hval 37 (by decide) (by decide)
  have a3 := hval 60 (by decide) (by decide)
  have a4 := hval 61 (by decide) (by decide)
  have a5 := hval 62 (by decide) (by decide)
  unfold p_X1_ofSign
  unfold gkd at hQ
  rw [show (35 : Int32) = nI 35 from rfl, show (37 : Int32) = nI 37 from rfl, show (60 : Int32) = nI 60 from rfl, show (61 : Int32) = nI 61 from rfl, show (62 : Int32) = nI 62 from rfl, a1, a2, a3, a4, a5]
  refine ⟨fun e => ?_, fun n1 => ⟨fun e => ?_, fun n2 => ⟨fun e => ?_, fun n3 => ⟨fun e => ?_, fun n4 => ⟨fun e => ?_, fun n5 => ?_⟩⟩⟩⟩⟩
  · rw [if_neg (by omega), if_neg (by omega), if_neg (by omega), if_pos e] at hQ; exact hQ
  · rw [if_neg (by omega), if_neg (by omega), if_neg (by omega), if_neg (by omega), if_pos e] at hQ; exact hQ
  · rw [if_neg (by omega), if_pos e] at hQ; exact hQ
  · rw [if_neg (by omega), if_neg (by omega), if_pos e] at hQ; exact hQ
  · rw [if_pos e] at hQ; exact hQ
  · rw [if_neg n5, if_neg n3, if_neg n4, if_neg n1, if_neg n2] at hQ; exact hQ
/-- a constraint: whether it is right, the place behind, what it tells -/
def gcl (T : Nat → Nat) (t : Nat) : Nat → Bool → Nat → Nat → Bool → (Nat → Int32) → Bool × Nat × (Nat → Int32)
  | 0, _, p, _, _, row => (false, p, row)
  | f + 1, first, p, m, rt, row =>
    if gsO (gch T t p) first = true then
      if gtOK T t (gsP T t p) m rt = true then
        match gkd (gch T t (gtP T t (gsP T t p))) with
        | some kd => (true, gN T t (gtP T t (gsP T t p)) + 1, upd (gtX T t (gsP T t p) (gsS (gch T t p)) row) 5 (nI kd))
        | none => gcl T t f false (gN T t (gtP T t (gsP T t p))) (gtM T t (gsP T t p) m) (gtR T t (gsP T t p) rt) (gtX T t (gsP T t p) (gsS (gch T t p)) row)
      else (false, gtQ T t (gsP T t p), row)
    else (false, gN T t p, row)
def gcb (T : Nat → Nat) (t f p : Nat) (sgn : Int32) (m : Nat) (rt : Bool) (row : Nat → Int32) : Bool × Nat × (Nat → Int32) :=
  if gtOK T t p m rt = true then
    match gkd (gch T t (gtP T t p)) with
    | some kd => (true, gN T t (gtP T t p) + 1, upd (gtX T t p sgn row) 5 (nI kd))
    | none => gcl T t f false (gN T t (gtP T t p)) (gtM T t p m) (gtR T t p rt) (gtX T t p sgn row)
  else (false, gtQ T t p, row)
theorem gcl_yes {T : Nat → Nat} {t f p m : Nat} {first rt : Bool} {row : Nat → Int32} (h : gsO (gch T t p) first = true) : gcl T t (f + 1) first p m rt row = gcb T t f (gsP T t p) (gsS (gch T t p)) m rt row := if_pos h
theorem gcl_no {T : Nat → Nat} {t f p m : Nat} {first rt : Bool} {row : Nat → Int32} (h : ¬ gsO (gch T t p) first = true) : gcl T t (f + 1) first p m rt row = (false, gN T t p, row) := if_neg h
theorem gcb_no {T : Nat → Nat} {t f p m : Nat} {sgn : Int32} {rt : Bool} {row : Nat → Int32} (h : ¬ gtOK T t p m rt = true) : gcb T t f p sgn m rt row = (false, gtQ T t p, row) := if_neg h
theorem gcb_kd {T : Nat → Nat} {t f p m kd : Nat} {sgn : Int32} {rt : Bool} {row : Nat → Int32} (h : gtOK T t p m rt = true) (hk : gkd (gch T t (gtP T t p)) = some kd) : gcb T t f p sgn m rt row = (true, gN T t (gtP T t p) + 1, upd (gtX T t p sgn row) 5 (nI kd)) := by
  unfold gcb
  rw [if_pos h, hk]
theorem gcb_go {T : Nat → Nat} {t f p m : Nat} {sgn : Int32} {rt : Bool} {row : Nat → Int32} (h : gtOK T t p m rt = true) (hk : gkd (gch T t (gtP T t p)) = none) : gcb T t f p sgn m rt row = gcl T t f false (gN T t (gtP T t p)) (gtM T t p m) (gtR T t p rt) (gtX T t p sgn row) := by
  unfold gcb
  rw [if_pos h, hk]
theorem gtM_lt {T : Nat → Nat} {t p m : Nat} (hm : m < 16) : gtM T t p m < 16 := by
  unfold gtM
  split
  · rename_i g
    exact Nat.or_lt_two_pow (n := 4) hm (Nat.pow_lt_pow_right (by decide) (by omega))
  · exact hm
theorem gkd_lt {T : Nat → Nat} {t p kd : Nat} {letters : Nat → Int32} (hT : gTx T t letters) (h : gkd (gch T t p) = some kd) : gN T t p < t := by
  by_cases y : gN T t p < t
  · exact y
  · rw [(gch_0 hT).mpr y, show gkd 0 = none from rfl] at h
    cases h
theorem s_X8_readConstraint {T : Nat → Nat} {t p k : Nat} {ch lt rs : Int32} {letters cells : Nat → Int32} {Q : Int32 → Int32 → Int32 → Int32 → Int32 → Int32 → (Nat → Int32) → Prop} (hT : gTx T t letters) (hp : p ≤ t) (hk : k < 8)
    (h1 : (gcl T t 131 true p 0 false (fun _ => 0)).1 = true → ∀ y1 y2 ch' c', (∀ i, i < 6 → c' (6 * k + i) = (gcl T t 131 true p 0 false (fun _ => 0)).2.2 i) → (∀ q, q < 6 * k → c' q = cells q) → Q 1 (nI (gcl T t 131 true p 0 false (fun _ => 0)).2.1) y1 y2 (nI (k + 1)) ch' c')
    (h0 : ¬ (gcl T t 131 true p 0 false (fun _ => 0)).1 = true → ∀ y1 y2 y3 ch' c', Q 0 (nI (gcl T t 131 true p 0 false (fun _ => 0)).2.1) y1 y2 y3 ch' c') : p_X8_readConstraint (nI t) (nI p) lt rs letters (nI k) ch cells Q := by
  have ht := hT.1
  unfold p_X8_readConstraint
  refine gi3_inv 6 (fun i a b c => a = nI i ∧ (∀ j, j < i → c (6 * k + j) = 0) ∧ ∀ q, q < 6 * k → c q = cells q) ?_ ?_ ⟨rfl, fun j hj => absurd hj (Nat.not_lt_zero j), fun _ _ => rfl⟩
  · rintro i hi X a b c ⟨rfl, c1, c2⟩ hX
    unfold p_X8_readConstraint_12 p_X9_setCell
    refine ⟨fun g => ?_, fun _ => ⟨gx_in _ (gx_6 k i) (by omega) (by decide), ?_⟩⟩
    · rw [gl_6, nI_leI (by decide) (by omega)] at g; omega
    · rw [gx_cl _ (gx_6 k i) (by omega)]
      refine hX _ _ _ ⟨nI_add i 1, fun j hj => ?_, fun q hq => ?_⟩
      · by_cases e : j = i
        · subst e; rw [pk_us]
        · rw [pk_un (by omega)]; exact c1 j (by omega)
      · rw [pk_un (by omega)]; exact c2 q hq
  · rintro X a b c ⟨rfl, c1, c2⟩
    unfold p_X8_readConstraint_12
    refine ⟨fun _ => ?_, fun g => absurd (by decide) g⟩
    refine gi6_inv 130 (fun i a1 a2 a3 a4 a5 a6 => a1 = nI i ∧ ∃ p' m rt row, a2 = nI p' ∧ a3 = nI m ∧ a4 = (if rt = true then 1 else 0) ∧ p + i ≤ p' ∧ p' ≤ t ∧ m < 16 ∧ (∀ j, j < 6 → a6 (6 * k + j) = row j) ∧ (∀ q, q < 6 * k → a6 q = cells q) ∧ gcl T t 131 true p 0 false (fun _ => 0) = gcl T t (131 - i) (decide (i = 0)) p' m rt row) ?_ ?_ ⟨rfl, p, 0, false, fun _ => 0, rfl, rfl, rfl, Nat.le_refl _, hp, by decide, fun j hj => c1 j hj, c2, rfl⟩
    · rintro i hi Y a1 a2 a3 a4 a5 a6 ⟨rfl, p', m, rt, row, rfl, rfl, rfl, k1, k2, k3, k4, k5, k6⟩ hY
      have hf : 131 - i = (131 - (i + 1)) + 1 := by omega
      rw [hf] at k6
      have en : nI i + (1 : Int32) = nI (i + 1) := nI_add i 1
      have go : ∀ (first : Bool) (xf : Int32), first = decide (i = 0) → xf = (if first = true then 1 else 0) → p_X8_readConstraint_59 (nI t) (nI p') (nI m) (if rt = true then 1 else 0) letters (nI k) a5 a6 (nI i) xf Y Q := by
        intro first xf hfi hxf
        rw [← hfi] at k6
        unfold p_X8_readConstraint_59
        have hsb := gsP_bd hT k2
        refine s_X8_readTerm hT k2 hk k3 hxf k4 (fun ho ok ch' c' g1 g2 => ⟨g10, fun _ => ?_⟩) (fun ho ok y1 y2 y3 y4 => ⟨fun _ => ?_, g00⟩) (fun ho y1 y2 y3 y4 => ⟨fun _ => ?_, g00⟩)
        · rw [gcl_yes ho] at k6
          have hpb := gtP_bd hT hsb.2 ok
          have hnb := gN_bd (T := T) hpb.2
          refine s_X8_next hT hpb.2 (s_ofSign (by have := gch_lt (p := gtP T t (gsP T t p')) hT; omega) ?_)
          cases hkd : gkd (gch T t (gtP T t (gsP T t p'))) with
          | none =>
            rw [gcb_go ok hkd] at k6
            refine ⟨fun _ => ?_, fun z => absurd (by decide) z⟩
            rw [en]
            refine hY _ _ _ _ _ _ ⟨rfl, _, _, _, _, rfl, rfl, rfl, by omega, hnb.2, gtM_lt k3, g1, fun q hq => by rw [g2 q hq, k5 q hq], ?_⟩
            rw [k6, decide_eq_false (by omega)]
          | some kd =>
            rw [gcb_kd ok hkd] at k6
            have hk4 := gkd_le hkd
            refine ⟨fun z => absurd z (nI_pos (by omega)), fun _ => ?_⟩
            rw [k6] at h1
            refine s_X9_set (j := 5) hk (by decide) g1 (fun ch'' c'' w1 w2 => ?_)
            have eN : nI (gN T t (gtP T t (gsP T t p'))) + (1 : Int32) = nI (gN T t (gtP T t (gsP T t p')) + 1) := nI_add _ 1
            have ek : nI k + (1 : Int32) = nI (k + 1) := nI_add k 1
            rw [eN, ek]
            exact h1 rfl _ _ _ _ w1 (fun q hq => by rw [w2 q hq, g2 q hq, k5 q hq])
        · rw [gcl_yes ho, gcb_no ok] at k6
          rw [k6] at h0
          exact h0 Bool.false_ne_true _ _ _ _ _
        · rw [gcl_no ho] at k6
          rw [k6] at h0
          exact h0 Bool.false_ne_true _ _ _ _ _
      unfold p_X8_readConstraint_42
      rw [show (130 : Int32) = nI 130 from rfl, nI_leI (by decide) (by omega), gl_0, nI_eq (by omega) (by decide)]
      refine ⟨fun g => by omega, fun _ => ⟨fun z => ?_, fun z => ?_⟩⟩
      · exact go true _ (decide_eq_true z).symm rfl
      · exact go false _ (decide_eq_false z).symm rfl
    · rintro Y a1 a2 a3 a4 a5 a6 ⟨rfl, p', m, rt, row, rfl, rfl, rfl, k1, k2, k3, k4, k5, k6⟩
      unfold p_X8_readConstraint_42
      refine ⟨fun _ => ?_, fun g => absurd (by decide) g⟩
      have hp0 : p = 0 := by omega
      have hpt : p' = t := by omega
      have hone : gcl T t 131 true p 0 false (fun _ => 0) = (false, t, row) := by
        rw [k6]
        have hch : gch T t p' = 0 := by
          rw [gch_0 hT]
          have := (gN_bd (T := T) k2).1
          omega
        have := gcl_no (T := T) (t := t) (f := 0) (p := p') (m := m) (first := decide (130 = 0)) (rt := rt) (row := row) (by rw [hch]; decide)
        rw [this]
        have hn := gN_bd (T := T) k2
        have : gN T t p' = t := by omega
        rw [this]
      rw [hone] at h0
      rw [hpt]
      exact h0 Bool.false_ne_true _ _ _ _ _
