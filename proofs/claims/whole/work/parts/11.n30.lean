/-! a system -/
def gset (R : Nat → Nat → Int32) (k : Nat) (x : Nat → Int32) : Nat → Nat → Int32 := fun i => if i = k then x else R i
theorem gset_s (R : Nat → Nat → Int32) (k : Nat) (x : Nat → Int32) : gset R k x k = x := if_pos rfl
theorem gset_n {R : Nat → Nat → Int32} {k i : Nat} {x : Nat → Int32} (h : ¬ i = k) : gset R k x i = R i := if_neg h
def gsy (T : Nat → Nat) (t : Nat) : Nat → Nat → Nat → (Nat → Nat → Int32) → Bool × Nat × Nat × (Nat → Nat → Int32)
  | 0, k, p, R => (false, p, k, R)
  | f + 1, k, p, R =>
    if gch T t p = 0 then (true, gN T t p, k, R)
    else if gch T t p = 59 ∧ k < 8 then
      if (gco T t (gN T t p + 1)).1 = true then gsy T t f (k + 1) (gco T t (gN T t p + 1)).2.1 (gset R k (gco T t (gN T t p + 1)).2.2)
      else (false, (gco T t (gN T t p + 1)).2.1, k, R)
    else (false, gN T t p, k, R)
theorem gsy_end {T : Nat → Nat} {t f k p : Nat} {R : Nat → Nat → Int32} (h : gch T t p = 0) : gsy T t (f + 1) k p R = (true, gN T t p, k, R) := if_pos h
theorem gsy_no {T : Nat → Nat} {t f k p : Nat} {R : Nat → Nat → Int32} (h0 : ¬ gch T t p = 0) (h : ¬ (gch T t p = 59 ∧ k < 8)) : gsy T t (f + 1) k p R = (false, gN T t p, k, R) := by
  show (if gch T t p = 0 then _ else _) = _
  rw [if_neg h0, if_neg h]
theorem gsy_go {T : Nat → Nat} {t f k p : Nat} {R : Nat → Nat → Int32} (h : gch T t p = 59) (hk : k < 8) (ok : (gco T t (gN T t p + 1)).1 = true) : gsy T t (f + 1) k p R = gsy T t f (k + 1) (gco T t (gN T t p + 1)).2.1 (gset R k (gco T t (gN T t p + 1)).2.2) := by
  show (if gch T t p = 0 then _ else _) = _
  rw [if_neg (by omega), if_pos ⟨h, hk⟩, if_pos ok]
theorem gsy_bad {T : Nat → Nat} {t f k p : Nat} {R : Nat → Nat → Int32} (h : gch T t p = 59) (hk : k < 8) (ok : ¬ (gco T t (gN T t p + 1)).1 = true) : gsy T t (f + 1) k p R = (false, (gco T t (gN T t p + 1)).2.1, k, R) := by
  show (if gch T t p = 0 then _ else _) = _
  rw [if_neg (by omega), if_pos ⟨h, hk⟩, if_neg ok]
theorem gch_pos {T : Nat → Nat} {t p : Nat} {letters : Nat → Int32} (hT : gTx T t letters) (h : ¬ gch T t p = 0) : gN T t p < t := by
  by_cases y : gN T t p < t
  · exact y
  · exact absurd ((gch_0 hT).mpr y) h
theorem gsy_ok {T : Nat → Nat} {t : Nat} {letters : Nat → Int32} (hT : gTx T t letters) : ∀ f k p R, f + k = 9 → k ≤ 8 → p ≤ t → (∀ i, i < k → gpok (R i) ∧ ∃ kd, kd ≤ 4 ∧ R i 5 = nI kd) → ((gsy T t f k p R).1 = true → (gsy T t f k p R).2.2.1 ≤ 8 ∧ ∀ i, i < (gsy T t f k p R).2.2.1 → gpok ((gsy T t f k p R).2.2.2 i) ∧ ∃ kd, kd ≤ 4 ∧ (gsy T t f k p R).2.2.2 i 5 = nI kd) := by
  intro f
  induction f with
  | zero => intro k p R h1 h2; omega
  | succ f ih =>
    intro k p R h1 h2 hp hR
    by_cases h0 : gch T t p = 0
    · rw [gsy_end h0]
      exact fun _ => ⟨h2, hR⟩
    · by_cases h59 : gch T t p = 59 ∧ k < 8
      · have hlt := gch_pos hT h0
        by_cases ok : (gco T t (gN T t p + 1)).1 = true
        · rw [gsy_go h59.1 h59.2 ok]
          obtain ⟨w1, w2, w3, w4⟩ := (gco_ok hT (show gN T t p + 1 ≤ t by omega)).1 ok
          refine ih (k + 1) _ _ (by omega) (by omega) w2 (fun i hi => ?_)
          by_cases e : i = k
          · subst e
            rw [gset_s]
            exact ⟨w3, w4⟩
          · rw [gset_n e]
            exact hR i (by omega)
        · rw [gsy_bad h59.1 h59.2 ok]
          exact fun z => absurd z Bool.false_ne_true
      · rw [gsy_no h0 h59]
        exact fun z => absurd z Bool.false_ne_true
def gsS0 (T : Nat → Nat) (t : Nat) : Bool × Nat × Nat × (Nat → Nat → Int32) := gsy T t 9 0 (gN T t 0 + 1) (fun _ _ => 0)
theorem s_X8_read {T : Nat → Nat} {t : Nat} {pl lt rs sz mo ch : Int32} {letters cells : Nat → Int32} {Q : Int32 → Int32 → Int32 → Int32 → Int32 → Int32 → Int32 → (Nat → Int32) → Prop} (hT : gTx T t letters)
    (hN : ¬ (49 ≤ gch T t 0 ∧ gch T t 0 ≤ 55) → ∀ y1 y2 y3 y4 y5 y6, Q 0 (nI (gN T t 0)) y1 y2 y3 y4 y5 y6)
    (h0 : (49 ≤ gch T t 0 ∧ gch T t 0 ≤ 55) → ¬ (gsS0 T t).1 = true → ∀ y1 y2 y3 y4 y5 y6, Q 0 (nI (gsS0 T t).2.1) y1 y2 y3 y4 y5 y6)
    (h1 : (49 ≤ gch T t 0 ∧ gch T t 0 ≤ 55) → (gsS0 T t).1 = true → ∀ y1 y2 y5 c', (∀ i, i < (gsS0 T t).2.2.1 → ∀ j, j < 6 → c' (6 * i + j) = (gsS0 T t).2.2.2 i j) → Q 1 (nI (gsS0 T t).2.1) y1 y2 (nI (gsS0 T t).2.2.1) (nI (gch T t 0 - 48)) y5 c') : p_X8_read (nI t) pl lt rs letters sz mo ch cells Q := by
  have ht := hT.1
  have hcl : gch T t 0 ≤ 126 := gch_lt hT
  unfold p_X8_read
  refine s_X8_next (p := 0) hT (Nat.zero_le _) ?_
  by_cases hd : 49 ≤ gch T t 0 ∧ gch T t 0 ≤ 55
  · refine s_oC_in (a := 49) (b := 55) (by decide) hd (by decide) ⟨fun _ => ?_, g00⟩
    have hlt := gch_pos hT (p := 0) (by omega)
    have eP : nI (gN T t 0) + (1 : Int32) = nI (gN T t 0 + 1) := nI_add _ 1
    have eM : (if gch T t 0 = 0 then (-1 : Int32) else nI (gch T t 0)) - (48 : Int32) = nI (gch T t 0 - 48) := by
      rw [if_neg (by omega)]
      exact pk_sub (b := 48) (by omega)
    unfold p_X9_setMost
    rw [eP, eM]
    refine gi7_inv 9 (fun k x2 pl lt rs sz ch c => x2 = nI k ∧ sz = nI k ∧ k ≤ 8 ∧ ∃ p R, pl = nI p ∧ p ≤ t ∧ (∀ i, i < k → ∀ j, j < 6 → c (6 * i + j) = R i j) ∧ gsS0 T t = gsy T t (9 - k) k p R) ?_ ?_ ⟨rfl, rfl, by decide, gN T t 0 + 1, fun _ _ => 0, rfl, hlt, fun i hi => absurd hi (Nat.not_lt_zero i), rfl⟩
    · rintro k hk X x2 pl lt rs sz ch c ⟨rfl, rfl, k8, p, R, rfl, hp, hR, hG⟩ hX
      have hcp : gch T t p ≤ 126 := gch_lt hT
      have hf : 9 - k = (9 - (k + 1)) + 1 := by omega
      rw [hf] at hG
      unfold p_X8_read_54
      rw [gl_8, nI_ltI (by decide) (by omega)]
      refine ⟨fun g => by omega, fun _ => s_X8_next hT hp ?_⟩
      by_cases hc0 : gch T t p = 0
      · rw [gsy_end hc0] at hG
        rw [hG] at h1
        rw [if_pos hc0]
        exact ⟨fun _ => h1 hd rfl _ _ _ _ hR, fun z => absurd rfl z⟩
      · rw [if_neg hc0]
        have hnm : ¬ (nI (gch T t p) = (-1 : Int32)) := fun z => gm_ne1 _ (by omega) z.symm
        refine ⟨fun z => absurd z hnm, fun _ => ?_⟩
        rw [show (59 : Int32) = nI 59 from rfl, nI_eq (by omega) (by decide), nI_eq (by omega) (by decide)]
        have hlt2 := gch_pos hT hc0
        refine ⟨fun z59 => ⟨fun z8 => ?_, fun z8 => ?_⟩, fun z59 => ?_⟩
        · rw [gsy_no hc0 (by omega)] at hG
          rw [hG] at h0
          exact h0 hd Bool.false_ne_true _ _ _ _ _ _
        · have eQ : nI (gN T t p) + (1 : Int32) = nI (gN T t p + 1) := nI_add _ 1
          rw [eQ]
          refine s_X8_readConstraint hT (show gN T t p + 1 ≤ t by omega) (by omega) (fun ok y1 y2 ch' c' g1 g2 => ⟨g10, fun _ => ?_⟩) (fun ok y1 y2 y3 ch' c' => ⟨fun _ => ?_, g00⟩)
          · have ok' : (gco T t (gN T t p + 1)).1 = true := ok
            obtain ⟨w1, w2, w3, w4⟩ := (gco_ok hT (show gN T t p + 1 ≤ t by omega)).1 ok'
            rw [gsy_go z59 (by omega) ok'] at hG
            refine hX _ _ _ _ _ _ _ ⟨nI_add k 1, rfl, by omega, _, _, rfl, w2, fun i hi j hj => ?_, hG⟩
            by_cases e : i = k
            · subst e
              rw [gset_s]
              exact g1 j hj
            · rw [gset_n e, g2 _ (by omega)]
              exact hR i (by omega) j hj
          · have ok' : ¬ (gco T t (gN T t p + 1)).1 = true := ok
            rw [gsy_bad z59 (by omega) ok'] at hG
            rw [hG] at h0
            exact h0 hd Bool.false_ne_true _ _ _ _ _ _
        · rw [gsy_no hc0 (fun z => z59 z.1)] at hG
          rw [hG] at h0
          exact h0 hd Bool.false_ne_true _ _ _ _ _ _
    · rintro X x2 pl lt rs sz ch c ⟨rfl, rfl, k8, -⟩
      omega
  · exact s_oC_out (a := 49) (b := 55) (by decide) hd (by omega) (by decide) (by decide) ⟨g10, fun _ => hN hd _ _ _ _ _ _⟩
theorem s_fault {T : Nat → Nat} {t p : Nat} {tape : Nat → Int32} {Q : Int32 → Int32 → Int32 → Prop} (hT : gTx T t tape) (hp : p ≤ t) (hpn : gN T t p = p) (hQ : Q (-1000020 - nI p) 0 (nI p)) : p_X11_fault (nI t) (nI p) tape Q := by
  have ht := hT.1
  have hc : gch T t p ≤ 126 := gch_lt hT
  unfold p_X11_fault p_X11_fault_12 p_X11_fault_30
  refine s_X11_here hT hp ?_
  rw [hpn, gl_0, nI_eq (by omega) (by decide)]
  rw [← gl_0]
  refine ⟨fun z => ⟨g10, fun _ => ?_⟩, fun z => ⟨fun _ => hQ, g00⟩⟩
  have : ¬ gN T t p < t := (gch_0 hT).mp z
  have e : t = p := by omega
  rw [e]
  exact hQ
theorem s_X11_system {T : Nat → Nat} {t : Nat} {pl told undos : Int32} {tape now rd : Nat → Int32} {Q : Int32 → Int32 → Int32 → Int32 → Int32 → (Nat → Int32) → (Nat → Int32) → Prop} (hT : gTx T t tape)
    (hN : ¬ (49 ≤ gch T t 0 ∧ gch T t 0 ≤ 55) → ∀ y1 y2 y3, Q (-1000020 - nI (gN T t 0)) 0 y1 y2 undos now y3)
    (h0 : (49 ≤ gch T t 0 ∧ gch T t 0 ≤ 55) → ¬ (gsS0 T t).1 = true → ∀ y1 y2 y3, Q (-1000020 - nI (gsS0 T t).2.1) 0 y1 y2 undos now y3)
    (h1 : (49 ≤ gch T t 0 ∧ gch T t 0 ≤ 55) → (gsS0 T t).1 = true → ∀ y1 y2 y3 now', now' 0 = nI (gsS0 T t).2.2.1 → now' 1 = nI (gch T t 0 - 48) → now' 2 = now 2 → (∀ i, i < (gsS0 T t).2.2.1 → ∀ j, j < 6 → now' (3 + 6 * i + j) = (gsS0 T t).2.2.2 i j) → Q (nI (gsS0 T t).2.2.1) 0 y1 y2 0 now' y3) : p_X11_system (nI t) pl told undos now rd tape Q := by
  have ht := hT.1
  have hcl : gch T t 0 ≤ 126 := gch_lt hT
  have hb0 := gN_bd (T := T) (t := t) (p := 0) (Nat.zero_le _)
  unfold p_X11_system
  refine s_X11_here (p := 0) hT (Nat.zero_le _) ?_
  have e48 : (nI (gch T t 0) - (48 : Int32)).toInt = (gch T t 0 : Int) - 48 := pk_sub_toInt (b := 48) (by omega) (by decide)
  by_cases hd : 49 ≤ gch T t 0 ∧ gch T t 0 ≤ 55
  · refine s_in_in (by rw [gm_l, e48]; exact ⟨by show (1 : Int) ≤ _; omega, by show _ ≤ (7 : Int); omega⟩) ⟨g10, fun _ => ?_⟩
    have hlt := gch_pos hT (p := 0) (by omega)
    have eP : nI (gN T t 0) + (1 : Int32) = nI (gN T t 0 + 1) := nI_add _ 1
    have eM : nI (gch T t 0) - (48 : Int32) = nI (gch T t 0 - 48) := pk_sub (b := 48) (by omega)
    rw [eP, eM]
    refine gi4_inv 9 (fun k x2 pl td r => x2 = nI k ∧ k ≤ 8 ∧ ∃ p R, pl = nI p ∧ p ≤ t ∧ (∀ i, i < k → ∀ j, j < 6 → r (6 * i + j) = R i j) ∧ gsS0 T t = gsy T t (9 - k) k p R) ?_ ?_ ⟨rfl, by decide, gN T t 0 + 1, fun _ _ => 0, rfl, hlt, fun i hi => absurd hi (Nat.not_lt_zero i), rfl⟩
    · rintro k hk X x2 pl td r ⟨rfl, k8, p, R, rfl, hp, hR, hG⟩ hX
      have hcp : gch T t p ≤ 126 := gch_lt hT
      have hbp := gN_bd (T := T) hp
      have hf : 9 - k = (9 - (k + 1)) + 1 := by omega
      rw [hf] at hG
      have last : ∀ q, q ≤ t → gch T t q = gch T t p → gN T t q = gN T t p → ¬ (gch T t p = 59 ∧ k < 8) → p_X11_system_79 (nI t) (nI q) td undos now r tape (nI (gch T t 0 - 48)) (nI k) Q := by
        intro q hq e1 e2 h59
        unfold p_X11_system_79
        refine s_X11_here hT hq ?_
        rw [e1, e2]
        refine ⟨fun z => ?_, fun z => ?_⟩
        · rw [gl_0, nI_eq (by omega) (by decide)] at z
          rw [gsy_end z] at hG
          rw [hG] at h1
          refine ⟨vp_in_nI (n := 1) (by decide) (by decide), vp_in_nI (n := 0) (by decide) (by decide), ?_⟩
          rw [gcl_1, gcl_0]
          have e6 : (6 : Int32) * nI k = nI (6 * k) := by rw [gl_6, pk_mul]
          refine gi2_inv (6 * k) (fun i x n => x = nI i ∧ n 0 = nI k ∧ n 1 = nI (gch T t 0 - 48) ∧ n 2 = now 2 ∧ ∀ q, q < i → n (3 + q) = r q) ?_ ?_ ⟨rfl, pk_us, by rw [pk_un (by decide), pk_us], by rw [pk_un (by decide), pk_un (by decide)], fun q hq => absurd hq (Nat.not_lt_zero q)⟩
          · rintro i hi Y x n ⟨rfl, n0, n1, n2, n3⟩ hY
            unfold p_X11_system_107
            have ex : (3 : Int32) + nI i = nI (3 + i) := by rw [gl_3, nI_add]
            rw [e6, nI_leI (by omega) (by omega)]
            refine ⟨fun g => by omega, fun _ => ⟨vp_in_nI (by omega) (by decide), gx_in _ ex (by omega) (by decide), ?_⟩⟩
            rw [gx_cl _ ex (by omega), nI_clamp (by omega)]
            refine hY _ _ ⟨nI_add i 1, by rw [pk_un (by omega)]; exact n0, by rw [pk_un (by omega)]; exact n1, by rw [pk_un (by omega)]; exact n2, fun q hq => ?_⟩
            by_cases e : q = i
            · subst e; rw [pk_us]
            · rw [pk_un (by omega)]; exact n3 q (by omega)
          · rintro Y x n ⟨rfl, n0, n1, n2, n3⟩
            unfold p_X11_system_107
            rw [e6]
            refine ⟨fun _ => h1 hd rfl _ _ _ n n0 n1 n2 (fun i hi j hj => ?_), fun g => absurd (by rw [nI_leI (by omega) (by omega)]; exact Nat.le_refl _) g⟩
            have hi' : i < k := hi
            rw [show 3 + 6 * i + j = 3 + (6 * i + j) by omega, n3 _ (by omega)]
            exact hR i hi' j hj
        · rw [gl_0, nI_eq (by omega) (by decide)] at z
          rw [gsy_no z h59] at hG
          rw [hG] at h0
          exact s_fault hT hbp.2 (gN_idem hp) (h0 hd Bool.false_ne_true _ _ _)
      unfold p_X11_system_42 p_X11_has
      rw [gl_8, nI_leI (by decide) (by omega)]
      refine ⟨fun g => last p hp rfl rfl (fun z => by omega), fun g => s_X11_here hT hp ?_⟩
      rw [show (59 : Int32) = nI 59 from rfl, nI_eq (by omega) (by decide)]
      refine ⟨fun z59 => ⟨g10, fun _ => ?_⟩, fun z59 => ⟨fun _ => last _ hbp.2 (gch_N hp) (gN_idem hp) (fun z => z59 z.1), g00⟩⟩
      have hlt2 := gch_pos hT (p := p) (by omega)
      have eQ : nI (gN T t p) + (1 : Int32) = nI (gN T t p + 1) := nI_add _ 1
      have e6 : (6 : Int32) * nI k = nI (6 * k) := by rw [gl_6, pk_mul]
      rw [eQ, e6]
      refine s_X11_reads hT (show gN T t p + 1 ≤ t by omega) (by omega) (by omega) (fun ok y c' g1 g2 => ⟨g10, fun _ => ?_⟩) (fun ok y1 y2 => ⟨fun _ => ?_, g00⟩)
      · obtain ⟨w1, w2, w3, w4⟩ := (gco_ok hT (show gN T t p + 1 ≤ t by omega)).1 ok
        rw [gsy_go z59 (by omega) ok] at hG
        refine hX _ _ _ _ ⟨nI_add k 1, by omega, _, _, rfl, w2, fun i hi j hj => ?_, hG⟩
        by_cases e : i = k
        · subst e
          rw [gset_s]
          exact g1 j hj
        · rw [gset_n e, g2 _ (by omega)]
          exact hR i (by omega) j hj
      · obtain ⟨w1, w2⟩ := (gco_ok hT (show gN T t p + 1 ≤ t by omega)).2 ok
        rw [gsy_bad z59 (by omega) ok] at hG
        rw [hG] at h0
        exact s_fault hT w1 w2 (h0 hd Bool.false_ne_true _ _ _)
    · rintro X x2 pl td r ⟨rfl, k8, -⟩
      omega
  · refine s_in_out (by rw [gm_l, e48]; intro z; exact hd ⟨by have : (1 : Int) ≤ _ := z.1; omega, by have : _ ≤ (7 : Int) := z.2; omega⟩) ⟨fun _ => s_fault hT hb0.2 (gN_idem (Nat.zero_le _)) (hN hd _ _ _), g00⟩
theorem gTx_of {t : Nat} {length taped : Int32} {letters tape : Nat → Int32} (h : gTape t length letters taped tape) : gTx (fun i => (letters i).toInt.toNat) t letters ∧ gTx (fun i => (letters i).toInt.toNat) t tape := by
  obtain ⟨h1, -, -, h2⟩ := h
  have eT : ∀ i, i < t → ∃ c, 32 ≤ c ∧ c ≤ 126 ∧ tape i = nI c ∧ letters i = nI c ∧ (letters i).toInt.toNat = c := by
    intro i hi
    obtain ⟨e, c, c1, c2, c3⟩ := h2 i hi
    refine ⟨c, c1, c2, c3, e.trans c3, ?_⟩
    rw [e, c3, nI_toInt (by omega)]
    omega
  refine ⟨⟨h1, fun i hi => ?_⟩, h1, fun i hi => ?_⟩
  · obtain ⟨c, c1, c2, c3, c4, c5⟩ := eT i hi
    show letters i = nI (letters i).toInt.toNat ∧ 32 ≤ (letters i).toInt.toNat ∧ (letters i).toInt.toNat ≤ 126
    rw [c5]
    exact ⟨c4, c1, c2⟩
  · obtain ⟨c, c1, c2, c3, c4, c5⟩ := eT i hi
    show tape i = nI (letters i).toInt.toNat ∧ 32 ≤ (letters i).toInt.toNat ∧ (letters i).toInt.toNat ≤ 126
    rw [c5]
    exact ⟨c3, c1, c2⟩
theorem o_system {n mo u t : Nat} {cells past now ahead letters tape tc rd : Nat → Int32} {size most draw known undos changes length taped place lt rs ts tm td tch mplace mtold : Int32} {X : Int32 → Int32 → Int32 → Int32 → Int32 → (Nat → Int32) → Int32 → Int32 → Int32 → Int32 → Int32 → Int32 → Int32 → (Nat → Int32) → Int32 → Int32 → Int32 → Int32 → (Nat → Int32) → (Nat → Int32) → Prop} (hB : gBook n mo u cells size most draw known past now undos ahead) (hT : gTape t length letters taped tape)
    (hX0 : ∀ y1 y2 y3 y4 y5 y6 y7 y8 y9 y10, X known size most draw changes cells 0 y1 y2 y3 y4 y5 y6 y7 0 y8 y9 undos now y10)
    (hX1 : ∀ n' mo' s' m' c' now' y1 y2 y3 y4 y5 y6 y7 y8 y9 y10, gBook n' mo' 0 c' s' m' draw 0 past now' 0 ahead → X 0 s' m' draw (changes + 1) c' 0 y1 y2 y3 y4 y5 y6 y7 0 y8 y9 0 now' y10) : p_X10_system known size most draw changes cells length place lt rs letters ts tm td tch tc (fun r1 y2 y3 y4 y5 y6 y7 y8 y9 y10 y11 y12 y13 y14 y15 => p_X11_system taped mplace mtold undos now rd tape (fun r16 y17 y18 y19 y20 y21 y22 => r1 = r16 ∧ X y2 y3 y4 y5 y6 y7 y8 y9 y10 y11 y12 y13 y14 y15 y17 y18 y19 y20 y21 y22)) := by
  obtain ⟨hT1, hT2⟩ := gTx_of hT
  obtain ⟨ht, rfl, rfl, -⟩ := id hT
  obtain ⟨hS, hu, hkn, hun, hP⟩ := id hB
  obtain ⟨g1, g2, g3, g4, g5, g6, g7, g8, g9, g10, g11⟩ := id hS
  unfold p_X10_system
  refine s_X8_read hT1 (fun hd y1 y2 y3 y4 y5 y6 => ⟨fun _ => s_X11_system hT2 (fun _ z1 z2 z3 => ⟨rfl, hX0 _ _ _ _ _ _ _ _ _ _⟩) (fun z => absurd z hd) (fun z => absurd z hd), fun z => absurd rfl z⟩) (fun hd hr y1 y2 y3 y4 y5 y6 => ⟨fun _ => s_X11_system hT2 (fun z => absurd hd z) (fun _ _ z1 z2 z3 => ⟨rfl, hX0 _ _ _ _ _ _ _ _ _ _⟩) (fun _ z => absurd z hr), fun z => absurd rfl z⟩) (fun hd hr y1 y2 y5 c' hc' => ⟨fun z => absurd z (by decide), fun _ => ?_⟩)
  unfold p_X0_begin p_X9_take
  refine ⟨by decide, by decide, by decide, by decide, by decide, ?_⟩
  refine s_X11_system hT2 (fun z => absurd hd z) (fun _ z => absurd hr z) (fun _ _ z1 z2 z3 now' n0 n1 n2 n3 => ⟨rfl, hX1 (gsS0 (fun i => (letters i).toInt.toNat) t).2.2.1 (gch (fun i => (letters i).toInt.toNat) t 0 - 48) _ _ _ _ _ _ _ _ _ _ _ _ _ _ ?_⟩)
  have hlt := gch_pos hT1 (p := 0) (by omega)
  obtain ⟨n8, nok⟩ := gsy_ok hT1 9 0 (gN (fun i => (letters i).toInt.toNat) t 0 + 1) (fun _ _ => 0) rfl (by decide) hlt (fun i hi => absurd hi (Nat.not_lt_zero i)) hr
  have e0 : (0 : Int32).toNatClampNeg = 0 := gcl_0
  have cell : ∀ i, i < (gsS0 (fun i => (letters i).toInt.toNat) t).2.2.1 → ∀ j, j < 6 → va_cpy c' cells (0 : Int32).toNatClampNeg (0 : Int32).toNatClampNeg (48 : Int32).toNatClampNeg (6 * i + j) = (gsS0 (fun i => (letters i).toInt.toNat) t).2.2.2 i j := by
    intro i hi j hj
    have hi8 : i < 8 := Nat.lt_of_lt_of_le hi n8
    rw [e0, gcl_48, pk_cpy_in (Nat.zero_le _) (by omega), Nat.zero_add, Nat.sub_zero]
    exact hc' i hi j hj
  refine ⟨⟨n8, by omega, by omega, rfl, rfl, n0, n1, by rw [n2, g8], g9, fun i hi j hj => by rw [cell i hi j hj, n3 i hi j hj], fun i hi => ?_⟩, Nat.zero_le _, rfl, rfl, fun i hi => absurd hi (Nat.not_lt_zero i)⟩
  obtain ⟨w1, kd, w2, w3⟩ := nok i hi
  refine ⟨fun j hj => ?_, ?_, kd, w2, ?_⟩
  · rw [cell i hi j (by omega)]; exact w1.1 j hj
  · rw [cell i hi 4 (by decide)]; exact w1.2
  · rw [cell i hi 5 (by decide)]; exact w3
