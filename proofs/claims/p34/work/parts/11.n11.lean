/-! seen -/
def gfit (b : Nat → Bool) : Nat → Bool
  | 0 => true
  | k + 1 => gfit b k && b k
def gfm (F : Nat → Bool) : Nat → Nat
  | 0 => 0
  | k + 1 => gfm F k + (if F k = true then 2 ^ k else 0)
theorem gfm_lt (F : Nat → Bool) (n : Nat) : gfm F n < 2 ^ n := by
  induction n with
  | zero => exact Nat.one_pos
  | succ n ih =>
    show gfm F n + _ < _
    rw [Nat.pow_succ]
    split <;> omega
theorem gfm_cg {F G : Nat → Bool} {n : Nat} (h : ∀ k, k < n → F k = G k) : gfm F n = gfm G n := by
  induction n with
  | zero => rfl
  | succ n ih =>
    show gfm F n + _ = gfm G n + _
    rw [ih (fun k hk => h k (by omega)), h n (by omega)]
theorem gfm_5 (F : Nat → Bool) : gfm F 5 = 0 + (if F 0 = true then 1 else 0) + (if F 1 = true then 2 else 0) + (if F 2 = true then 4 else 0) + (if F 3 = true then 8 else 0) + (if F 4 = true then 16 else 0) := rfl
theorem gm_and5 : ∀ j, j < 5 → ∀ b0 b1 b2 b3 b4 t : Bool, nI (0 + (if b0 = true then 1 else 0) + (if b1 = true then 2 else 0) + (if b2 = true then 4 else 0) + (if b3 = true then 8 else 0) + (if b4 = true then 16 else 0)) &&& (if t = true then (31 : Int32) else ((1 : Int32) <<< (nI j &&& 31)) ^^^ (-1 : Int32)) = nI (0 + (if (if j = 0 then b0 && t else b0) = true then 1 else 0) + (if (if j = 1 then b1 && t else b1) = true then 2 else 0) + (if (if j = 2 then b2 && t else b2) = true then 4 else 0) + (if (if j = 3 then b3 && t else b3) = true then 8 else 0) + (if (if j = 4 then b4 && t else b4) = true then 16 else 0)) := by decide +kernel
theorem gfm_and {F G : Nat → Bool} {j : Nat} {t : Bool} (hj : j < 5) (h1 : ∀ k, k ≠ j → G k = F k) (h2 : G j = (F j && t)) : nI (gfm F 5) &&& (if t = true then (31 : Int32) else ((1 : Int32) <<< (nI j &&& 31)) ^^^ (-1 : Int32)) = nI (gfm G 5) := by
  rw [gfm_5, gm_and5 j hj, gfm_5]
  have h : ∀ k, G k = if j = k then F k && t else F k := by
    intro k
    by_cases e : j = k
    · subst e; rw [if_pos rfl, h2]
    · rw [if_neg e, h1 k (fun z => e z.symm)]
  rw [← h 0, ← h 1, ← h 2, ← h 3, ← h 4]
theorem gm_beq (b w : Bool) : ((if b = true then (1 : Int32) else 0) = (if w = true then 1 else 0)) ↔ (b == w) = true := by
  cases b <;> cases w <;> decide
theorem gm_b1 (a b : Bool) (h : b = true) : (if a = true then (1 : Int32) else 0) &&& 1 = if (a && b) = true then 1 else 0 := by
  subst h
  cases a <;> decide
theorem gm_b0 (a b : Bool) (h : ¬ b = true) : (if a = true then (1 : Int32) else 0) &&& 0 = if (a && b) = true then 1 else 0 := by
  rw [Bool.not_eq_true] at h
  subst h
  cases a <;> decide
theorem gfit_off {b : Nat → Bool} {k n : Nat} (h : gfit b k = false) (hk : k ≤ n) : gfit b n = false := by
  induction n with
  | zero => rw [← h, show k = 0 by omega]
  | succ n ih =>
    by_cases e : k = n + 1
    · rw [← e]; exact h
    · show (gfit b n && b n) = false
      rw [ih (by omega), Bool.false_and]
theorem s_X10_kinds {cells : Nat → Int32} {items : Nat → Int64} {P : Nat → Nat} {c s i n : Nat} {x5 : Int32} {w : Bool} {Q : Int32 → Prop} (hc : c < 8) (hs : s < 4) (hin : i + n ≤ 24) (hw : x5 = if w = true then 1 else 0) (hP : ∀ k, k < n → P k < 4096 ∧ (items (24 * s + (i + k))).toInt32 = nI (P k))
    (hQ : Q (nI (gfm (fun kind => gfit (fun k => ghold (nI kind) (gsum (fun j => cells (6 * c + j)) (P k)) == w) n) 5))) : p_X10_kindsThatFit cells items (nI c) (nI s) (nI i) (nI n) x5 Q := by
  unfold p_X10_kindsThatFit
  refine gi2_inv 5 (fun o a b => b = nI o ∧ a = nI (gfm (fun kind => gfit (fun k => ghold (nI kind) (gsum (fun j => cells (6 * c + j)) (P k)) == w) n) o)) ?_ ?_ ⟨rfl, rfl⟩
  · rintro o ho X a b ⟨rfl, rfl⟩ hX
    unfold p_X10_kindsThatFit_6
    refine ⟨fun g => ?_, fun _ => ?_⟩
    · rw [gl_4, nI_ltI (by decide) (by omega)] at g; omega
    · have hend : ∀ a : Int32, a = (if gfit (fun k => ghold (nI o) (gsum (fun j => cells (6 * c + j)) (P k)) == w) n = true then 1 else 0) → p_X10_kindsThatFit_81 (nI (gfm (fun kind => gfit (fun k => ghold (nI kind) (gsum (fun j => cells (6 * c + j)) (P k)) == w) n) o)) (nI o) a X := by
        rintro a rfl
        unfold p_X10_kindsThatFit_81 p_X10_kindsThatFit_96
        refine ⟨fun g => hX _ _ ⟨by rw [gl_1, nI_add], ?_⟩, fun g => hX _ _ ⟨by rw [gl_1, nI_add], ?_⟩⟩
        · show _ = nI (gfm _ o + _)
          by_cases e : gfit (fun k => ghold (nI o) (gsum (fun j => cells (6 * c + j)) (P k)) == w) n = true
          · rw [if_pos e] at g; exact absurd g (by decide)
          · rw [if_neg e]; exact Int32.or_zero
        · show _ = nI (gfm _ o + _)
          by_cases e : gfit (fun k => ghold (nI o) (gsum (fun j => cells (6 * c + j)) (P k)) == w) n = true
          · rw [if_pos e]; exact gm_or8 o (by omega) _ (gfm_lt _ _)
          · rw [if_neg e] at g; exact absurd rfl g
      refine gi2_inv n (fun k a b => b = nI k ∧ a = if gfit (fun k => ghold (nI o) (gsum (fun j => cells (6 * c + j)) (P k)) == w) k = true then 1 else 0) ?_ ?_ ⟨rfl, rfl⟩
      · rintro k hk Y a b ⟨rfl, rfl⟩ hY
        unfold p_X10_kindsThatFit_18
        refine ⟨fun g => ?_, fun _ => ⟨fun g => ?_, fun g => ?_⟩⟩
        · rw [nI_leI (by omega) (by omega)] at g; omega
        · by_cases e : gfit (fun k => ghold (nI o) (gsum (fun j => cells (6 * c + j)) (P k)) == w) k = true
          · rw [if_pos e] at g; exact absurd g (by decide)
          · rw [if_neg e]
            refine hend 0 ?_
            rw [if_neg (by rw [gfit_off (Bool.not_eq_true _ ▸ e) (Nat.le_of_lt hk)]; decide)]
        · have e : gfit (fun k => ghold (nI o) (gsum (fun j => cells (6 * c + j)) (P k)) == w) k = true := by
            by_cases e : gfit (fun k => ghold (nI o) (gsum (fun j => cells (6 * c + j)) (P k)) == w) k = true
            · exact e
            · rw [if_neg e] at g; exact absurd rfl g
          obtain ⟨p1, p2⟩ := hP k hk
          unfold p_X7_get
          have e1 : nI s * (24 : Int32) + (nI i + nI k) = nI (24 * s + (i + k)) := by rw [nI_add, gx_24]
          refine ⟨gx_in _ e1 (by omega) (by decide), ?_⟩
          rw [gx_cl _ e1 (by omega)]
          dsimp only
          rw [p2]
          refine s_X9_sumAt hc p1 (s_X1_holds ?_)
          unfold p_X10_kindsThatFit_73
          rw [hw, gm_beq]
          refine ⟨fun g => hY _ _ ⟨by rw [gl_1, nI_add], ?_⟩, fun g => hY _ _ ⟨by rw [gl_1, nI_add], ?_⟩⟩
          · show (1 : Int32) = if (gfit _ k && _) = true then (1 : Int32) else 0
            rw [e, Bool.true_and, if_pos g]
          · show (0 : Int32) = if (gfit _ k && _) = true then (1 : Int32) else 0
            rw [e, Bool.true_and, if_neg g]
      · rintro Y a b ⟨rfl, rfl⟩
        unfold p_X10_kindsThatFit_18
        exact ⟨fun _ => hend _ rfl, fun g => absurd (by rw [nI_leI (by omega) (by omega)]; exact Nat.le_refl _) g⟩
  · rintro X a b ⟨rfl, rfl⟩
    unfold p_X10_kindsThatFit_6
    exact ⟨fun _ => hQ, fun g => absurd (by rw [gl_4, nI_ltI (by decide) (by decide)]; omega) g⟩
theorem gm_pt64 {v : Int64} (h : 0 ≤ v.toInt ∧ v.toInt ≤ 4095) : v.toInt.toNat < 4096 ∧ v.toInt32 = nI v.toInt.toNat := by
  refine ⟨by omega, ?_⟩
  apply Int32.toInt_inj.mp
  rw [nI_toInt (by omega), Int64.toInt_toInt32, gm_bm (by omega) (by omega)]
  omega
theorem s_arePoints {items : Nat → Int64} {s i n : Nat} {Q : Int32 → Prop} (hs : s < 4) (hin : i + n ≤ 24) (h1 : (∀ k, k < n → 0 ≤ (items (24 * s + (i + k))).toInt ∧ (items (24 * s + (i + k))).toInt ≤ 4095) → Q 1) (h0 : ¬ (∀ k, k < n → 0 ≤ (items (24 * s + (i + k))).toInt ∧ (items (24 * s + (i + k))).toInt ≤ 4095) → Q 0) : p_X7_arePoints items (nI s) (nI i) (nI n) Q := by
  unfold p_X7_arePoints
  refine gi1_inv n (fun m a => a = nI m ∧ ∀ k, k < m → 0 ≤ (items (24 * s + (i + k))).toInt ∧ (items (24 * s + (i + k))).toInt ≤ 4095) ?_ ?_ ⟨rfl, fun k hk => absurd hk (Nat.not_lt_zero k)⟩
  · rintro m hm X a ⟨rfl, ha⟩ hX
    unfold p_X7_arePoints_3 p_X7_get
    have e : nI s * (24 : Int32) + (nI i + nI m) = nI (24 * s + (i + m)) := by rw [nI_add, gx_24]
    have z0 : (0 : Int64).toInt = 0 := rfl
    have z1 : (4095 : Int64).toInt = 4095 := rfl
    refine ⟨fun g => ?_, fun _ => ⟨gx_in _ e (by omega) (by decide), ?_⟩⟩
    · rw [nI_leI (by omega) (by omega)] at g; omega
    · rw [gx_cl _ e (by omega)]
      dsimp only
      rw [gm_cmp_lt, gm_cmp_le, z0, z1]
      refine ⟨fun g => h0 (fun z => ?_), fun g => ⟨fun g2 => hX _ ⟨by rw [gl_1, nI_add], fun k hk => ?_⟩, fun g2 => h0 (fun z => ?_)⟩⟩
      · have := z m hm; omega
      · by_cases e2 : k = m
        · subst e2; exact ⟨by omega, g2⟩
        · exact ha k (by omega)
      · have := z m hm; omega
  · rintro X a ⟨rfl, ha⟩
    unfold p_X7_arePoints_3
    exact ⟨fun _ => h1 ha, fun g => absurd (by rw [nI_leI (by omega) (by omega)]; exact Nat.le_refl _) g⟩
