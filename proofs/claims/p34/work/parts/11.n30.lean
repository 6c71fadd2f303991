/-! a system -/
def gset (R : Nat → Nat → Int32) (k : Nat) (x : Nat → Int32) : Nat → Nat → Int32 := fun i => if i = k then x else R i
theorem gset_s (R : Nat → Nat → Int32) (k : Nat) (x : Nat → Int32) : gset R k x k = x := if_pos rfl
theorem gset_n {R : Nat → Nat → Int32} {k i : Nat} {x : Nat → Int32} (h : ¬ i = k) : gset R k x i = R i := if_neg h
def gsy (T : Nat → Nat) (t : Nat) : Nat → Nat → Nat → (Nat → Nat → Int32) → Bool × Nat × Nat × (Nat → Nat → Int32)
  | 0, k, p, R => (false, p, k, R)
  | f + 1, k, p, R =>
    if gch T t p = 0 then (true, gN T t p, k, R)
    else if gch T t p = 59 ∧ k < 8 then
      if (gco T t (gN T t p + 1)).1 = true then gsy T t f (k + 1) (gco T t (gN T t p + 1)).2.1 (gset R k (gco T t (gN T t p + 1)).2.2)
      else (false, (gco T t (gN T t p + 1)).2.1, k, R)
    else (false, gN T t p, k, R)
theorem gsy_end {T : Nat → Nat} {t f k p : Nat} {R : Nat → Nat → Int32} (h : gch T t p = 0) : gsy T t (f + 1) k p R = (true, gN T t p, k, R) := if_pos h
theorem gsy_no {T : Nat → Nat} {t f k p : Nat} {R : Nat → Nat → Int32} (h0 : ¬ gch T t p = 0) (h : ¬ (gch T t p = 59 ∧ k < 8)) : gsy T t (f + 1) k p R = (false, gN T t p, k, R) := by
  show (if gch T t p = 0 then _ else _) = _
  rw [if_neg h0, if_neg h]
theorem gsy_go {T : Nat → Nat} {t f k p : Nat} {R : Nat → Nat → Int32} (h : gch T t p = 59) (hk : k < 8) (ok : (gco T t (gN T t p + 1)).1 = true) : gsy T t (f + 1) k p R = gsy T t f (k + 1) (gco T t (gN T t p + 1)).2.1 (gset R k (gco T t (gN T t p + 1)).2.2) := by
  show (if gch T t p = 0 then _ else _) = _
  rw [if_neg (by omega), if_pos ⟨h, hk⟩, if_pos ok]
theorem gsy_bad {T : Nat → Nat} {t f k p : Nat} {R : Nat → Nat → Int32} (h : gch T t p = 59) (hk : k < 8) (ok : ¬ (gco T t (gN T t p + 1)).1 = true) : gsy T t (f + 1) k p R = (false, (gco T t (gN T t p + 1)).2.1, k, R) := by
  show (if gch T t p = 0 then _ else _) = _
  rw [if_neg (by omega), if_pos ⟨h, hk⟩, if_neg ok]
theorem gch_pos {T : Nat → Nat} {t p : Nat} {letters : Nat → Int32} (hT : gTx T t letters) (h : ¬ gch T t p = 0) : gN T t p < t := by
  by_cases y : gN T t p < t
  · exact y
  · exact absurd ((gch_0 hT).mpr y) h
theorem gsy_ok {T : Nat → Nat} {t : Nat} {letters : Nat → Int32} (hT : gTx T t letters) : ∀ f k p R, f + k = 9 → k ≤ 8 → p ≤ t → (∀ i, i < k → gpok (R i) ∧ ∃ kd, kd ≤ 4 ∧ R i 5 = nI kd) → ((gsy T t f k p R).1 = true → (gsy T t f k p R).2.2.1 ≤ 8 ∧ ∀ i, i < (gsy T t f k p R).2.2.1 → gpok ((gsy T t f k p R).2.2.2 i) ∧ ∃ kd, kd ≤ 4 ∧ (gsy T t f k p R).2.2.2 i 5 = nI kd) := by
  intro f
  induction f with
  | zero => intro k p R h1 h2; omega
  | succ f ih =>
    intro k p R h1 h2 hp hR
    by_cases h0 : gch T t p = 0
    · rw [gsy_end h0]
      exact fun _ => ⟨h2, hR⟩
    · by_cases h59 : gch T t p = 59 ∧ k < 8
      · have hlt := gch_pos hT h0
        by_cases ok : (gco T t (gN T t p + 1)).1 = true
        · rw [gsy_go h59.1 h59.2 ok]
          obtain ⟨w1, w2, w3, w4⟩ := (gco_ok hT (show gN T t p + 1 ≤ t by omega)).1 ok
          refine ih (k + 1) _ _ (by omega) (by omega) w2 (fun i hi => ?_)
          by_cases e : i = k
          · subst e
            rw [gset_s]
            exact ⟨w3, w4⟩
          · rw [gset_n e]
            exact hR i (by omega)
        · rw [gsy_bad h59.1 h59.2 ok]
          exact fun z => absurd z Bool.false_ne_true
      · rw [gsy_no h0 h59]
        exact fun z => absurd z Bool.false_ne_true
def gsS0 (T : Nat → Nat) (t : Nat) : Bool × Nat × Nat × (Nat → Nat → Int32) := gsy T t 9 0 (gN T t 0 + 1) (fun _ _ => 0)
theorem s_X8_read {T : Nat → Nat} {t : Nat} {pl lt rs sz mo ch : Int32} {letters cells : Nat → Int32} {Q : Int32 → Int32 → Int32 → Int32 → Int32 → Int32 → Int32 → (Nat → Int32) → Prop} (hT : gTx T t letters)
    (hN : ¬ (49 ≤ gch T t 0 ∧ gch T t 0 ≤ 55) → ∀ y1 y2 y3 y4 y5 y6, Q 0 (nI (gN T t 0)) y1 y2 y3 y4 y5 y6)
    (h0 : (49 ≤ gch T t 0 ∧ gch T t 0 ≤ 55) → ¬ (gsS0 T t).1 = true → ∀ y1 y2 y3 y4 y5 y6, Q 0 (nI (gsS0 T t).2.1) y1 y2 y3 y4 y5 y6)
    (h1 : (49 ≤ gch T t 0 ∧ gch T t 0 ≤ 55) → (gsS0 T t).1 = true → ∀ y1 y2 y5 c', (∀ i, i < (gsS0 T t).2.2.1 → ∀ j, j < 6 → c' (6 * i + j) = (gsS0 T t).2.2.2 i j) → Q 1 (nI (gsS0 T t).2.1) y1 y2 (nI (gsS0 T t).2.2.1) (nI (gch T t 0 - 48)) y5 c') : p_X8_read (nI t) pl lt rs letters sz mo ch cells Q := by
  have ht := hT.1
  have hcl : gch T t 0 ≤ 126 := gch_lt hT
  unfold p_X8_read
  refine s_X8_next (p := 0) hT (Nat.zero_le _) ?_
  by_cases hd : 49 ≤ gch T t 0 ∧ gch T t 0 ≤ 55
  · refine s_oC_in (a := 49) (b := 55) (by decide) hd (by decide) ⟨fun _ => ?_, g00⟩
    have hlt := gch_pos hT (p := 0) (by omega)
    have eP : nI (gN T t 0) + (1 : Int32) = nI (gN T t 0 + 1) := nI_add _ 1
    have eM : (if gch T t 0 = 0 then (-1 : Int32) else nI (gch T t 0)) - (48 : Int32) = nI (gch T t 0 - 48) := by
      rw [if_neg (by omega)]
      exact pk_sub (b := 48) (by omega)
    unfold p_X9_setMost
    rw [eP, eM]
    refine gi7_inv 9 (fun k x2 pl lt rs sz ch c => x2 = nI k ∧ sz = nI k ∧ k ≤ 8 ∧ ∃ p R, pl = nI p ∧ p ≤ t ∧ (∀ i, i < k → ∀ j, j < 6 → c (6 * i + j) = R i j) ∧ gsS0 T t = gsy T t (9 - k) k p R) ?_ ?_ ⟨rfl, rfl, by decide, gN T t 0 + 1, fun _ _ => 0, rfl, hlt, fun i hi => absurd hi (Nat.not_lt_zero i), rfl⟩
    · rintro k hk X x2 pl lt rs sz ch c ⟨rfl, rfl, k8, p, R, rfl, hp, hR, hG⟩ hX
      have hcp : gch T t p ≤ 126 := gch_lt hT
      have hf : 9 - k = (9 - (k + 1)) + 1 := by omega
      rw [hf] at hG
      unfold p_X8_read_54
      rw [gl_8, nI_ltI (by decide) (by omega)]
      refine ⟨fun g => by omega, fun _ => s_X8_next hT hp ?_⟩
      by_cases hc0 : gch T t p = 0
      · rw [gsy_end hc0] at hG
        rw [hG] at h1
        rw [if_pos hc0]
        exact ⟨fun _ => h1 hd rfl _ _ _ _ hR, fun z => absurd rfl z⟩
      · rw [if_neg hc0]
        have hnm : ¬ (nI (gch T t p) = (-1 : Int32)) := fun z => gm_ne1 _ (by omega) z.symm
        refine ⟨fun z => absurd z hnm, fun _ => ?_⟩
        rw [show (59 : Int32) = nI 59 from rfl, nI_eq (by omega) (by decide), nI_eq (by omega) (by decide)]
        have hlt2 := gch_pos hT hc0
        refine ⟨fun z59 => ⟨fun z8 => ?_, fun z8 => ?_⟩, fun z59 => ?_⟩
        · rw [gsy_no hc0 (by omega)] at hG
          rw [hG] at h0
          exact h0 hd Bool.false_ne_true _ _ _ _ _ _
        · have eQ : nI (gN T t p) + (1 : Int32) = nI (gN T t p + 1) := nI_add _ 1
          rw [eQ]
          refine s_X8_readConstraint hT (show gN T t p + 1 ≤ t by omega) (by omega) (fun ok y1 y2 ch' c' g1 g2 => ⟨g10, fun _ => ?_⟩) (fun ok y1 y2 y3 ch' c' => ⟨fun _ => ?_, g00⟩)
          · have ok' : (gco T t (gN T t p + 1)).1 = true := ok
            obtain ⟨w1, w2, w3, w4⟩ := (gco_ok hT (show gN T t p + 1 ≤ t by omega)).1 ok'
            rw [gsy_go z59 (by omega) ok'] at hG
            refine hX _ _ _ _ _ _ _ ⟨nI_add k 1, rfl, by omega, _, _, rfl, w2, fun i hi j hj => ?_, hG⟩
            by_cases e : i = k
            · subst e
              rw [gset_s]
              exact g1 j hj
            · rw [gset_n e, g2 _ (by omega)]
              exact hR i (by omega) j hj
          · have ok' : ¬ (gco T t (gN T t p + 1)).1 = true := ok
            rw [gsy_bad z59 (by omega) ok'] at hG
            rw [hG] at h0
            exact h0 hd Bool.false_ne_true _ _ _ _ _ _
        · rw [gsy_no hc0 (fun z => z59 z.1)] at hG
          rw [hG] at h0
          exact h0 hd Bool.false_ne_true _ _ _ _ _ _
    · rintro X x2 pl lt rs sz ch c ⟨rfl, rfl, k8, -⟩
      omega
  · exact s_oC_out (a := 49) (b := 55) (by decide) hd (by omega) (by decide) (by decide) ⟨g10, fun _ => hN hd _ _ _ _ _ _⟩
theorem gTx_of {t : Nat} {length taped : Int32} {letters tape : Nat → Int32} (h : gTape t length letters taped tape) : gTx (fun i => (letters i).toInt.toNat) t letters ∧ gTx (fun i => (letters i).toInt.toNat) t tape := by
  obtain ⟨h1, -, -, h2⟩ := h
  have eT : ∀ i, i < t → ∃ c, 32 ≤ c ∧ c ≤ 126 ∧ tape i = nI c ∧ letters i = nI c ∧ (letters i).toInt.toNat = c := by
    intro i hi
    obtain ⟨e, c, c1, c2, c3⟩ := h2 i hi
    refine ⟨c, c1, c2, c3, e.trans c3, ?_⟩
    rw [e, c3, nI_toInt (by omega)]
    omega
  refine ⟨⟨h1, fun i hi => ?_⟩, h1, fun i hi => ?_⟩
  · obtain ⟨c, c1, c2, c3, c4, c5⟩ := eT i hi
    show letters i = nI (letters i).toInt.toNat ∧ 32 ≤ (letters i).toInt.toNat ∧ (letters i).toInt.toNat ≤ 126
    rw [c5]
    exact ⟨c4, c1, c2⟩
  · obtain ⟨c, c1, c2, c3, c4, c5⟩ := eT i hi
    show tape i = nI (letters i).toInt.toNat ∧ 32 ≤ (letters i).toInt.toNat ∧ (letters i).toInt.toNat ≤ 126
    rw [c5]
    exact ⟨c3, c1, c2⟩
