/-! seen -/
def gfit (b : Nat → Bool) : Nat → Bool
  | 0 => true
  | k + 1 => gfit b k && b k
def gfm (F : Nat → Bool) : Nat → Nat
  | 0 => 0
  | k + 1 => gfm F k + (if F k = true then 2 ^ k else 0)
theorem gfm_lt (F : Nat → Bool) (n : Nat) : gfm F n < 2 ^ n := by
  induction n with
  | zero => exact Nat.one_pos
  | succ n ih =>
    show gfm F n + _ < _
    rw [Nat.pow_succ]
    split <;> omega
theorem gfm_cg {F G : Nat → Bool} {n : Nat} (h : ∀ k, k < n → F k = G k) : gfm F n = gfm G n := by
  induction n with
  | zero => rfl
  | succ n ih =>
    show gfm F n + _ = gfm G n + _
    rw [ih (fun k hk => h k (by omega)), h n (by omega)]
theorem gfm_5 (F : Nat → Bool) : gfm F 5 = 0 + (if F 0 = true then 1 else 0) + (if F 1 = true then 2 else 0) + (if F 2 = true then 4 else 0) + (if F 3 = true then 8 else 0) + (if F 4 = true then 16 else 0) := rfl
theorem gm_and5 : ∀ j, j < 5 → ∀ b0 b1 b2 b3 b4 t : Bool, nI (0 + (if b0 = true then 1 else 0) + (if b1 = true then 2 else 0) + (if b2 = true then 4 else 0) + (if b3 = true then 8 else 0) + (if b4 = true then 16 else 0)) &&& (if t = true then (31 : Int32) else ((1 : Int32) <<< (nI j &&& 31)) ^^^ (-1 : Int32)) = nI (0 + (if (if j = 0 then b0 && t else b0) = true then 1 else 0) + (if (if j = 1 then b1 && t else b1) = true then 2 else 0) + (if (if j = 2 then b2 && t else b2) = true then 4 else 0) + (if (if j = 3 then b3 && t else b3) = true then 8 else 0) + (if (if j = 4 then b4 && t else b4) = true then 16 else 0)) := by decide +kernel
theorem gfm_and {F G : Nat → Bool} {j : Nat} {t : Bool} (hj : j < 5) (h1 : ∀ k, k ≠ j → G k = F k) (h2 : G j = (F j && t)) : nI (gfm F 5) &&& (if t = true then (31 : Int32) else ((1 : Int32) <<< (nI j &&& 31)) ^^^ (-1 : Int32)) = nI (gfm G 5) := by
  rw [gfm_5, gm_and5 j hj, gfm_5]
  have h : ∀ k, G k = if j = k then F k && t else F k := by
    intro k
    by_cases e : j = k
    · subst e; rw [if_pos rfl, h2]
    · rw [if_neg e, h1 k (fun z => e z.symm)]
  rw [← h 0, ← h 1, ← h 2, ← h 3, ← h 4]
theorem gm_beq (b w : Bool) : ((if b = true then (1 : Int32) else 0) = (if w = true then 1 else 0)) ↔ (b == w) = true := by
  cases b <;> cases w <;> decide
theorem gm_b1 (a b : Bool) (h : b = true) : (if a = true then (1 : Int32) else 0) &&& 1 = if (a && b) = true then 1 else 0 := by
  subst h
  cases a <;> decide
theorem gm_b0 (a b : Bool) (h : ¬ b = true) : (if a = true then (1 : Int32) else 0) &&& 0 = if (a && b) = true then 1 else 0 := by
  rw [Bool.not_eq_true] at h
  subst h
  cases a <;> decide
theorem gfit_off {b : Nat → Bool} {k n : Nat} (h : gfit b k = false) (hk : k ≤ n) : gfit b n = false := by
  induction n with
  | zero => rw [← h, show k = 0 by omega]
  | succ n ih =>
    by_cases e : k = n + 1
    · rw [← e]; exact h
    · show (gfit b n && b n) = false
      rw [ih (by omega), Bool.false_and]
theorem s_X10_kinds {cells : Nat → Int32} {items : Nat → Int64} {P : Nat → Nat} {c s i n : Nat} {x5 : Int32} {w : Bool} {Q : Int32 → Prop} (hc : c < 8) (hs : s < 4) (hin : i + n ≤ 24) (hw : x5 = if w = true then 1 else 0) (hP : ∀ k, k < n → P k < 4096 ∧ (items (24 * s + (i + k))).toInt32 = nI (P k))
    (hQ : Q (nI (gfm (fun kind => gfit (fun k => ghold (nI kind) (gsum (fun j => cells (6 * c + j)) (P k)) == w) n) 5))) : p_X10_kindsThatFit cells items (nI c) (nI s) (nI i) (nI n) x5 Q := by
  unfold p_X10_kindsThatFit
  refine gi2_inv 5 (fun o a b => b = nI o ∧ a = nI (gfm (fun kind => gfit (fun k => ghold (nI kind) (gsum (fun j => cells (6 * c + j)) (P k)) == w) n) o)) ?_ ?_ ⟨rfl, rfl⟩
  · rintro o ho X a b ⟨rfl, rfl⟩ hX
    unfold p_X10_kindsThatFit_6
    refine ⟨fun g => ?_, fun _ => ?_⟩
    · rw [gl_4, nI_ltI (by decide) (by omega)] at g; omega
    · have hend : ∀ a : Int32, a = (if gfit (fun k => ghold (nI o) (gsum (fun j => cells (6 * c + j)) (P k)) == w) n = true then 1 else 0) → p_X10_kindsThatFit_81 (nI (gfm (fun kind => gfit (fun k => ghold (nI kind) (gsum (fun j => cells (6 * c + j)) (P k)) == w) n) o)) (nI o) a X := by
        rintro a rfl
        unfold p_X10_kindsThatFit_81 p_X10_kindsThatFit_96
        refine ⟨fun g => hX _ _ ⟨by rw [gl_1, nI_add], ?_⟩, fun g => hX _ _ ⟨by rw [gl_1, nI_add], ?_⟩⟩
        · show _ = nI (gfm _ o + _)
          by_cases e : gfit (fun k => ghold (nI o) (gsum (fun j => cells (6 * c + j)) (P k)) == w) n = true
          · rw [if_pos e] at g; exact absurd g (by decide)
          · rw [if_neg e]; exact Int32.or_zero
        · show _ = nI (gfm _ o + _)
          by_cases e : gfit (fun k => ghold (nI o) (gsum (fun j => cells (6 * c + j)) (P k)) == w) n = true
          · rw [if_pos e]; exact gm_or8 o (by omega) _ (gfm_lt _ _)
          · rw [if_neg e] at g; exact absurd rfl g
      refine gi2_inv n (fun k a b => b = nI k ∧ a = if gfit (fun k => ghold (nI o) (gsum (fun j => cells (6 * c + j)) (P k)) == w) k = true then 1 else 0) ?_ ?_ ⟨rfl, rfl⟩
      · rintro k hk Y a b ⟨rfl, rfl⟩ hY
        unfold p_X10_kindsThatFit_18
        refine ⟨fun g => ?_, fun _ => ⟨fun g => ?_, fun g => ?_⟩⟩
        · rw [nI_leI (by omega) (by omega)] at g; omega
        · by_cases e : gfit (fun k => ghold (nI o) (gsum (fun j => cells (6 * c + j)) (P k)) == w) k = true
          · rw [if_pos e] at g; exact absurd g (by decide)
          · rw [if_neg e]
            refine hend 0 ?_
            rw [if_neg (by rw [gfit_off (Bool.not_eq_true _ ▸ e) (Nat.le_of_lt hk)]; decide)]
        · have e : gfit (fun k => ghold (nI o) (gsum (fun j => cells (6 * c + j)) (P k)) == w) k = true := by
            by_cases e : gfit (fun k => ghold (nI o) (gsum (fun j => cells (6 * c + j)) (P k)) == w) k = true
            · exact e
            · rw [if_neg e] at g; exact absurd rfl g
          obtain ⟨p1, p2⟩ := hP k hk
          unfold p_X7_get
          have e1 : nI s * (24 : Int32) + (nI i + nI k) = nI (24 * s + (i + k)) := by rw [nI_add, gx_24]
          refine ⟨gx_in _ e1 (by omega) (by decide), ?_⟩
          rw [gx_cl _ e1 (by omega)]
          dsimp only
          rw [p2]
          refine s_X9_sumAt hc p1 (s_X1_holds ?_)
          unfold p_X10_kindsThatFit_73
          rw [hw, gm_beq]
          refine ⟨fun g => hY _ _ ⟨by rw [gl_1, nI_add], ?_⟩, fun g => hY _ _ ⟨by rw [gl_1, nI_add], ?_⟩⟩
          · show (1 : Int32) = if (gfit _ k && _) = true then (1 : Int32) else 0
            rw [e, Bool.true_and, if_pos g]
          · show (0 : Int32) = if (gfit _ k && _) = true then (1 : Int32) else 0
            rw [e, Bool.true_and, if_neg g]
      · rintro Y a b ⟨rfl, rfl⟩
        unfold p_X10_kindsThatFit_18
        exact ⟨fun _ => hend _ rfl, fun g => absurd (by rw [nI_leI (by omega) (by omega)]; exact Nat.le_refl _) g⟩
  · rintro X a b ⟨rfl, rfl⟩
    unfold p_X10_kindsThatFit_6
    exact ⟨fun _ => hQ, fun g => absurd (by rw [gl_4, nI_ltI (by decide) (by decide)]; omega) g⟩
theorem gm_pt64 {v : Int64} (h : 0 ≤ v.toInt ∧ v.toInt ≤ 4095) : v.toInt.toNat < 4096 ∧ v.toInt32 = nI v.toInt.toNat := by
  refine ⟨by omega, ?_⟩
  apply Int32.toInt_inj.mp
  rw [nI_toInt (by omega), Int64.toInt_toInt32, gm_bm (by omega) (by omega)]
  omega
theorem s_arePoints {items : Nat → Int64} {s i n : Nat} {Q : Int32 → Prop} (hs : s < 4) (hin : i + n ≤ 24) (h1 : (∀ k, k < n → 0 ≤ (items (24 * s + (i + k))).toInt ∧ (items (24 * s + (i + k))).toInt ≤ 4095) → Q 1) (h0 : ¬ (∀ k, k < n → 0 ≤ (items (24 * s + (i + k))).toInt ∧ (items (24 * s + (i + k))).toInt ≤ 4095) → Q 0) : p_X7_arePoints items (nI s) (nI i) (nI n) Q := by
  unfold p_X7_arePoints
  refine gi1_inv n (fun m a => a = nI m ∧ ∀ k, k < m → 0 ≤ (items (24 * s + (i + k))).toInt ∧ (items (24 * s + (i + k))).toInt ≤ 4095) ?_ ?_ ⟨rfl, fun k hk => absurd hk (Nat.not_lt_zero k)⟩
  · rintro m hm X a ⟨rfl, ha⟩ hX
    unfold p_X7_arePoints_3 p_X7_get
    have e : nI s * (24 : Int32) + (nI i + nI m) = nI (24 * s + (i + m)) := by rw [nI_add, gx_24]
    have z0 : (0 : Int64).toInt = 0 := rfl
    have z1 : (4095 : Int64).toInt = 4095 := rfl
    refine ⟨fun g => ?_, fun _ => ⟨gx_in _ e (by omega) (by decide), ?_⟩⟩
    · rw [nI_leI (by omega) (by omega)] at g; omega
    · rw [gx_cl _ e (by omega)]
      dsimp only
      rw [gm_cmp_lt, gm_cmp_le, z0, z1]
      refine ⟨fun g => h0 (fun z => ?_), fun g => ⟨fun g2 => hX _ ⟨by rw [gl_1, nI_add], fun k hk => ?_⟩, fun g2 => h0 (fun z => ?_)⟩⟩
      · have := z m hm; omega
      · by_cases e2 : k = m
        · subst e2; exact ⟨by omega, g2⟩
        · exact ha k (by omega)
      · have := z m hm; omega
  · rintro X a ⟨rfl, ha⟩
    unfold p_X7_arePoints_3
    exact ⟨fun _ => h1 ha, fun g => absurd (by rw [nI_leI (by omega) (by omega)]; exact Nat.le_refl _) g⟩
/-- the points of a sheet, asked by the model -/
theorem s_X11_seen_90 {items : Nat → Int64} {now : Nat → Int32} {x1 x6 : Int32} {s i n : Nat} {Q : Int32 → Prop} (hs : s < 4) (hin : i + n ≤ 24) (h1 : (∀ k, k < n → 0 ≤ (items (24 * s + (i + k))).toInt ∧ (items (24 * s + (i + k))).toInt ≤ 4095) → ∃ k, gi2 (p_X11_seen_125 items now x1 (nI n) x6 (nI (24 * s + i)) Q) k (31 : Int32) (0 : Int32)) (h0 : ¬ (∀ k, k < n → 0 ≤ (items (24 * s + (i + k))).toInt ∧ (items (24 * s + (i + k))).toInt ≤ 4095) → Q (-1000002)) : ∃ k, gi1 (p_X11_seen_90 items now x1 (nI n) x6 (nI (24 * s + i)) (31 : Int32) Q) k (0 : Int32) := by
  refine gi1_inv n (fun m a => a = nI m ∧ ∀ k, k < m → 0 ≤ (items (24 * s + (i + k))).toInt ∧ (items (24 * s + (i + k))).toInt ≤ 4095) ?_ ?_ ⟨rfl, fun k hk => absurd hk (Nat.not_lt_zero k)⟩
  · rintro m hm X a ⟨rfl, ha⟩ hX
    unfold p_X11_seen_90
    have e : nI (24 * s + i) + nI m = nI (24 * s + (i + m)) := by rw [nI_add, Nat.add_assoc]
    refine ⟨fun g => ?_, fun _ => ⟨gx_in _ e (by omega) (by decide), ?_⟩⟩
    · rw [nI_leI (by omega) (by omega)] at g; omega
    · rw [gx_cl _ e (by omega)]
      unfold p_X11_isPoint
      have z0 : (0 : Int64).toInt = 0 := rfl
      have z1 : (4095 : Int64).toInt = 4095 := rfl
      by_cases g : 0 ≤ (items (24 * s + (i + m))).toInt ∧ (items (24 * s + (i + m))).toInt ≤ 4095
      · refine s_in_in g ⟨rfl, ⟨g10, fun _ => hX _ ⟨by rw [gl_1, nI_add], fun k hk => ?_⟩⟩⟩
        by_cases e2 : k = m
        · subst e2; exact g
        · exact ha k (by omega)
      · exact s_in_out g ⟨rfl, ⟨fun _ => h0 (fun z => g (z m hm)), g00⟩⟩
  · rintro X a ⟨rfl, ha⟩
    unfold p_X11_seen_90
    exact ⟨fun _ => h1 ha, fun g => absurd (by rw [nI_leI (by omega) (by omega)]; exact Nat.le_refl _) g⟩
theorem s_X11_seen_125 {items : Nat → Int64} {now : Nat → Int32} {P : Nat → Nat} {x6 : Int32} {c s i n : Nat} {w : Bool} {Q : Int32 → Prop} (hc : c < 8) (hs : s < 4) (hin : i + n ≤ 24) (hw : w = decide (x6 = 0)) (hP : ∀ k, k < n → P k < 4096 ∧ (items (24 * s + (i + k))).toInt32 = nI (P k))
    (hQ : Q (nI (gfm (fun kind => gfit (fun k => ghold (nI kind) (gsum (fun j => now (3 + 6 * c + j)) (P k)) == w) n) 5))) : ∃ k, gi2 (p_X11_seen_125 items now (nI c) (nI n) x6 (nI (24 * s + i)) Q) k (31 : Int32) (0 : Int32) := by
  refine gi2_inv n (fun m a b => b = nI m ∧ a = nI (gfm (fun kind => gfit (fun k => ghold (nI kind) (gsum (fun j => now (3 + 6 * c + j)) (P k)) == w) m) 5)) ?_ ?_ ⟨rfl, rfl⟩
  · rintro m hm X a b ⟨rfl, rfl⟩ hX
    unfold p_X11_seen_125
    have e : nI (24 * s + i) + nI m = nI (24 * s + (i + m)) := by rw [nI_add, Nat.add_assoc]
    refine ⟨fun g => ?_, fun _ => ⟨gx_in _ e (by omega) (by decide), ?_⟩⟩
    · rw [nI_leI (by omega) (by omega)] at g; omega
    · obtain ⟨p1, p2⟩ := hP m hm
      rw [gx_cl _ e (by omega), p2]
      refine s_X11_sumOf hc p1 ?_
      refine gi2_inv 5 (fun o a b => b = nI o ∧ a = nI (gfm (fun kind => gfit (fun k => ghold (nI kind) (gsum (fun j => now (3 + 6 * c + j)) (P k)) == w) (if kind < o then m + 1 else m)) 5)) ?_ ?_ ⟨rfl, rfl⟩
      · rintro o ho Y a b ⟨rfl, rfl⟩ hY
        unfold p_X11_seen_153
        refine ⟨fun g => ?_, fun _ => s_X11_holdsBy ?_⟩
        · rw [gl_5, nI_leI (by decide) (by omega)] at g; omega
        · have key : ∀ t : Bool, t = (ghold (nI o) (gsum (fun j => now (3 + 6 * c + j)) (P m)) == w) → Y (nI (gfm (fun kind => gfit (fun k => ghold (nI kind) (gsum (fun j => now (3 + 6 * c + j)) (P k)) == w) (if kind < o then m + 1 else m)) 5) &&& (if t = true then (31 : Int32) else ((1 : Int32) <<< (nI o &&& 31)) ^^^ (-1 : Int32))) (nI o + (1 : Int32)) := by
            intro t ht
            refine hY _ _ ⟨by rw [gl_1, nI_add], gfm_and ho (fun k hk => ?_) ?_⟩
            · by_cases e1 : k < o
              · rw [if_pos e1, if_pos (show k < o + 1 by omega)]
              · rw [if_neg e1, if_neg (show ¬ k < o + 1 by omega)]
            · show gfit _ (if o < o + 1 then m + 1 else m) = (gfit _ (if o < o then m + 1 else m) && t)
              rw [if_pos (Nat.lt_succ_self o), if_neg (Nat.lt_irrefl o), ht]
              rfl
          have fin : ∀ (x : Int32), x = (if w = true then 1 else 0) → p_X11_seen_178 (nI o) (nI (gfm (fun kind => gfit (fun k => ghold (nI kind) (gsum (fun j => now (3 + 6 * c + j)) (P k)) == w) (if kind < o then m + 1 else m)) 5)) (if ghold (nI o) (gsum (fun j => now (3 + 6 * c + j)) (P m)) = true then 1 else 0) x Y := by
            intro x hx
            unfold p_X11_seen_178 p_X11_seen_192
            rw [hx, gm_beq]
            refine ⟨fun g => ?_, fun g => ?_⟩
            · exact key true g.symm
            · rw [Bool.not_eq_true] at g
              exact key false g.symm
          refine ⟨fun g => fin 1 ?_, fun g => fin 0 ?_⟩
          · rw [hw, decide_eq_true g]; rfl
          · rw [hw, decide_eq_false g]; rfl
      · rintro Y a b ⟨rfl, rfl⟩
        unfold p_X11_seen_153
        refine ⟨fun _ => hX _ _ ⟨by rw [gl_1, nI_add], ?_⟩, fun g => absurd (by rw [gl_5, nI_leI (by decide) (by decide)]; omega) g⟩
        exact congrArg nI (gfm_cg (fun k hk => by rw [if_pos hk]))
  · rintro X a b ⟨rfl, rfl⟩
    unfold p_X11_seen_125
    exact ⟨fun _ => hQ, fun g => absurd (by rw [nI_leI (by omega) (by omega)]; exact Nat.le_refl _) g⟩
theorem o_seen {n mo : Nat} {cells now : Nat → Int32} {size most draw : Int32} {items items' : Nat → Int64} {lanes sizes lanes' sizes' : Nat → Int32} {a1 a2 a3 a4 a5 a6 : Int32} {X : Prop} (hS : gSnap n mo cells size most draw now) (hT : gSheets items lanes sizes items' lanes' sizes') (hX : X) : p_X10_seen size cells items lanes sizes a1 a2 a3 a4 a5 a6 (fun r1 => p_X11_seen items' lanes' now sizes' a1 a2 a3 a4 a5 a6 (fun r2 => r1 = r2 ∧ X)) := by
  obtain ⟨hn, -, -, rfl, -, h0, -, -, -, hc, -⟩ := hS
  unfold p_X10_seen
  by_cases h1 : ∃ k, k < n ∧ a1 = nI k
  · obtain ⟨c, hcn, rfl⟩ := h1
    refine s_noC_in hcn hn ⟨fun _ => ?_, g00⟩
    by_cases h2 : (∃ s, s < 4 ∧ a2 = nI s) ∧ ∃ l, l < 4 ∧ a3 = nI l
    · obtain ⟨⟨s, hs, rfl⟩, l, hl, rfl⟩ := h2
      obtain ⟨t1, t2, t3, z, t4, t5, t6⟩ := hT s hs
      have t5' : sizes' s = nI z := by rw [← t2]; exact t5
      have t3' : lanes' s = -1 ∨ ∃ l, l < 4 ∧ lanes' s = nI l := by rw [← t1]; exact t3
      refine s_noSL_in hs hl ⟨fun _ => ?_, g00⟩
      by_cases h5 : ∃ m, 1 ≤ m ∧ m ≤ 8 ∧ a5 = nI m
      · have h5' := (gm_rng (by decide) (by decide)).mp h5
        obtain ⟨m, m1, m8, rfl⟩ := h5
        refine s_out_in h5' ⟨fun _ => ?_, g00⟩
        by_cases h6 : ∃ w, w < 2 ∧ a6 = nI w
        · obtain ⟨wn, hwn, rfl⟩ := h6
          refine s_oR_in hwn (by decide) rfl ⟨fun _ => s_X7_refusal hs t4 t5 (by omega) ?_, g00⟩
          have enter : ∀ Q : Int32 → Prop, p_X11_why lanes' sizes' (nI s) (nI l) a4 (nI m) (fun r6 => (0 ≤ r6 → (∃ n, gi1 (p_X11_seen_90 items' now (nI c) (nI m) (nI wn) (((24 : Int32) * nI s) + a4) (31 : Int32) Q) n (0 : Int32))) ∧ (¬ (0 ≤ r6) → (Q r6))) → p_X11_seen items' lanes' now sizes' (nI c) (nI s) (nI l) a4 (nI m) (nI wn) Q := by
            intro Q hh
            unfold p_X11_seen
            exact s_one_in h0 hcn hn ⟨g10, fun _ => s_sh_in hs ⟨g10, fun _ => s_iR_in hl (by decide) (by decide) ⟨g10, fun _ => s_in_in (by rw [gm_l]; exact h5') ⟨g10, fun _ => s_iR_in hwn (by decide) (by decide) ⟨g10, fun _ => hh⟩⟩⟩⟩⟩
          rcases gref_cases (ls := lanes s) (lane := nI l) (z := z) (i := a4) (n := m) with ⟨e, k1, k2, k3, k4⟩ | ⟨e, k1⟩
          · refine ⟨fun _ => ?_, fun g => absurd e g⟩
            obtain ⟨i, hi, rfl⟩ : ∃ i, i < 24 ∧ a4 = nI i := (gm_ix (by decide)).mpr (by omega)
            rw [nI_toInt (by omega)] at k4
            have hitem : ∀ k, k < m → items (24 * s + (i + k)) = items' (24 * s + (i + k)) := fun k hk => t6 k1 (i + k) (by omega)
            have hall : (∀ k, k < m → 0 ≤ (items (24 * s + (i + k))).toInt ∧ (items (24 * s + (i + k))).toInt ≤ 4095) ↔ (∀ k, k < m → 0 ≤ (items' (24 * s + (i + k))).toInt ∧ (items' (24 * s + (i + k))).toInt ≤ 4095) := by
              constructor
              · intro z k hk; rw [← hitem k hk]; exact z k hk
              · intro z k hk; rw [hitem k hk]; exact z k hk
            refine s_arePoints hs (by omega) (fun ha => ⟨g10, fun _ => ?_⟩) (fun ha => ⟨fun _ => ?_, g00⟩)
            · have hP : ∀ k, k < m → (items (24 * s + (i + k))).toInt.toNat < 4096 ∧ (items (24 * s + (i + k))).toInt32 = nI (items (24 * s + (i + k))).toInt.toNat := fun k hk => gm_pt64 (ha k hk)
              have hP' : ∀ k, k < m → (items (24 * s + (i + k))).toInt.toNat < 4096 ∧ (items' (24 * s + (i + k))).toInt32 = nI (items (24 * s + (i + k))).toInt.toNat := fun k hk => by rw [← hitem k hk]; exact hP k hk
              have hsame : ∀ w : Bool, gfm (fun kind => gfit (fun k => ghold (nI kind) (gsum (fun j => cells (6 * c + j)) ((items (24 * s + (i + k))).toInt.toNat)) == w) m) 5 = gfm (fun kind => gfit (fun k => ghold (nI kind) (gsum (fun j => now (3 + 6 * c + j)) ((items (24 * s + (i + k))).toInt.toNat)) == w) m) 5 := by
                intro w
                congr 1
                funext kind
                congr 1
                funext k
                rw [gsum_cg (fun j hj => hc c hcn j (by omega))]
              have fin : ∀ (x : Int32) (w : Bool), x = (if w = true then 1 else 0) → w = decide (nI wn = 0) → p_X10_seen_95 cells items (nI c) (nI s) (nI i) (nI m) x (fun r1 => p_X11_seen items' lanes' now sizes' (nI c) (nI s) (nI l) (nI i) (nI m) (nI wn) (fun r2 => r1 = r2 ∧ X)) := by
                intro x w hx hw
                unfold p_X10_seen_95
                refine s_X10_kinds (w := w) (by omega) hs (by omega) hx hP ?_
                refine enter _ (s_X11_why hs t4 t5' t3' (by omega) ⟨fun _ => ?_, fun g => ?_⟩)
                · rw [gx_24m]
                  exact s_X11_seen_90 hs (by omega) (fun _ => s_X11_seen_125 (w := w) (by omega) hs (by omega) hw hP' ⟨by rw [hsame], hX⟩) (fun z => absurd (hall.mp ha) z)
                · rw [← t1, e] at g; exact absurd (by decide) g
              exact ⟨fun g => fin 1 true rfl (decide_eq_true g).symm, fun g => fin 0 false rfl (decide_eq_false g).symm⟩
            · refine enter _ (s_X11_why hs t4 t5' t3' (by omega) ⟨fun _ => ?_, fun g => ?_⟩)
              · rw [gx_24m]
                exact s_X11_seen_90 hs (by omega) (fun z => absurd (hall.mpr z) ha) (fun _ => ⟨rfl, hX⟩)
              · rw [← t1, e] at g; exact absurd (by decide) g
          · refine ⟨fun g => absurd g e, fun _ => enter _ (s_X11_why hs t4 t5' t3' (by omega) ⟨fun g => ?_, fun _ => ?_⟩)⟩
            · rw [← t1] at g; exact absurd g k1
            · rw [← t1]; exact ⟨rfl, hX⟩
        · refine s_oR_out h6 (by decide) (by decide) rfl ⟨g10, fun _ => ?_⟩
          unfold p_X11_seen
          exact s_one_in h0 hcn hn ⟨g10, fun _ => s_sh_in hs ⟨g10, fun _ => s_iR_in hl (by decide) (by decide) ⟨g10, fun _ => s_in_in (by rw [gm_l]; exact h5') ⟨g10, fun _ => s_iR_out h6 (by decide) (by decide) ⟨fun _ => ⟨rfl, hX⟩, g00⟩⟩⟩⟩⟩
      · have h5' := fun z => h5 ((gm_rng (by decide) (by decide)).mpr z)
        refine s_out_out h5' ⟨g10, fun _ => ?_⟩
        unfold p_X11_seen
        exact s_one_in h0 hcn hn ⟨g10, fun _ => s_sh_in hs ⟨g10, fun _ => s_iR_in hl (by decide) (by decide) ⟨g10, fun _ => s_in_out (by rw [gm_l]; exact h5') ⟨fun _ => ⟨rfl, hX⟩, g00⟩⟩⟩⟩
    · refine s_noSL_out h2 ⟨g10, fun _ => ?_⟩
      unfold p_X11_seen
      by_cases h1 : ∃ s, s < 4 ∧ a2 = nI s
      · have h3 : ¬ ∃ l, l < 4 ∧ a3 = nI l := fun z => h2 ⟨h1, z⟩
        obtain ⟨s, hs, rfl⟩ := h1
        exact s_one_in h0 hcn hn ⟨g10, fun _ => s_sh_in hs ⟨g10, fun _ => s_iR_out h3 (by decide) (by decide) ⟨fun _ => ⟨rfl, hX⟩, g00⟩⟩⟩
      · exact s_one_in h0 hcn hn ⟨g10, fun _ => s_sh_out h1 ⟨fun _ => ⟨rfl, hX⟩, g00⟩⟩
  · refine s_noC_out h1 hn ⟨g10, fun _ => ?_⟩
    unfold p_X11_seen
    exact s_one_out h0 h1 hn ⟨fun _ => ⟨rfl, hX⟩, g00⟩
