/-! stretch -/
def glk (kd : Nat) (s : Int) : Int := if kd = 0 then (if s < 0 then -s else 0) else if kd = 1 then (if 0 < s then -s else 0) else if kd = 2 then -s else if kd = 3 then (if s = 0 then 1 else 0) else s % 2
def ghi (kd : Nat) (s : Int) : Prop := if kd = 0 then 0 ≤ s else if kd = 1 then s ≤ 0 else if kd = 2 then s = 0 else if kd = 3 then ¬ s = 0 else s % 2 = 0
theorem gm_and1 (s : Int32) : (s &&& (1 : Int32)).toInt = s.toInt % 2 := by
  have h1 : s &&& (1 : Int32) = nI (s.toBitVec.toNat % 2 ^ 1) := pk_and s 1 (by decide)
  have h2 := gm_nat s
  rw [h1, nI_toInt (by omega)]
  omega
theorem gh_iff {kd : Nat} {s : Int32} (hk : kd ≤ 4) : ghold (nI kd) s = true ↔ ghi kd s.toInt := by
  have z0 : (0 : Int32).toInt = 0 := rfl
  rcases (show kd = 0 ∨ kd = 1 ∨ kd = 2 ∨ kd = 3 ∨ kd = 4 by omega) with rfl | rfl | rfl | rfl | rfl
  · show decide (0 ≤ s) = true ↔ 0 ≤ s.toInt
    rw [decide_eq_true_eq, Int32.le_iff_toInt_le, z0]
  · show decide (s ≤ 0) = true ↔ s.toInt ≤ 0
    rw [decide_eq_true_eq, Int32.le_iff_toInt_le, z0]
  · show decide (s = 0) = true ↔ s.toInt = 0
    rw [decide_eq_true_eq, gm_z]
  · show decide (¬ s = 0) = true ↔ ¬ s.toInt = 0
    rw [decide_eq_true_eq, gm_z]
  · show decide (s &&& (1 : Int32) = 0) = true ↔ s.toInt % 2 = 0
    rw [decide_eq_true_eq, gm_z, gm_and1]
theorem glk_bd {kd : Nat} {s : Int} (hs : -400 ≤ s ∧ s ≤ 400) : -400 ≤ glk kd s ∧ glk kd s ≤ 400 := by
  unfold glk
  split
  · split <;> omega
  · split
    · split <;> omega
    · split
      · omega
      · split
        · split <;> omega
        · omega
theorem gm_negI {s : Int32} (hs : -400 ≤ s.toInt ∧ s.toInt ≤ 400) : (-s).toInt = -s.toInt := by
  rw [Int32.toInt_neg, gm_bm (by omega) (by omega)]
theorem s_lacking {kd : Nat} {s : Int32} {Q : Int32 → Prop} (hk : kd ≤ 4) (hs : -400 ≤ s.toInt ∧ s.toInt ≤ 400) (hQ : ∀ r : Int32, r.toInt = glk kd s.toInt → Q r) : p_X1_lacking (nI kd) s Q := by
  have z0 : (0 : Int32).toInt = 0 := rfl
  have en := gm_negI hs
  unfold p_X1_lacking
  rw [gl_0, gl_1, gl_2, gl_3, nI_eq (by omega) (by decide), nI_eq (by omega) (by decide), nI_eq (by omega) (by decide), nI_eq (by omega) (by decide)]
  rw [← gl_0, ← gl_1]
  refine ⟨fun e => hQ _ ?_, fun e0 => ⟨fun e => hQ _ ?_, fun e1 => ⟨fun e => hQ _ ?_, fun e2 => ⟨fun e => ⟨fun y => hQ _ ?_, fun y => hQ _ ?_⟩, fun e3 => hQ _ ?_⟩⟩⟩⟩
  · subst e
    show _ = if s.toInt < 0 then -s.toInt else 0
    by_cases h : s.toInt < 0
    · rw [if_pos h, if_pos (by rw [Int32.lt_iff_toInt_lt, en, z0]; omega), en]
    · rw [if_neg h, if_neg (by rw [Int32.lt_iff_toInt_lt, en, z0]; omega)]
      rfl
  · subst e
    show _ = if 0 < s.toInt then -s.toInt else 0
    by_cases h : 0 < s.toInt
    · rw [if_pos h, if_pos (by rw [Int32.lt_iff_toInt_lt, en, z0]; omega), en]
    · rw [if_neg h, if_neg (by rw [Int32.lt_iff_toInt_lt, en, z0]; omega)]
      rfl
  · subst e
    exact en
  · subst e
    show _ = if s.toInt = 0 then (1 : Int) else 0
    rw [if_pos (gm_z.mp y)]
    rfl
  · subst e
    show _ = if s.toInt = 0 then (1 : Int) else 0
    rw [if_neg (fun z => y (gm_z.mpr z))]
    rfl
  · unfold glk
    rw [if_neg e0, if_neg e1, if_neg e2, if_neg e3]
    exact gm_and1 s
def gnr (l b : Int) : Prop := l.natAbs < b.natAbs ∨ (l.natAbs = b.natAbs ∧ b < l)
theorem s_isNearer {l b : Int32} {Q : Int32 → Prop} (hl : l.toInt.natAbs < 2 ^ 30) (hb : b.toInt.natAbs < 2 ^ 30) (h1 : gnr l.toInt b.toInt → Q 1) (h0 : ¬ gnr l.toInt b.toInt → Q 0) : p_X5_isNearer l b Q := by
  unfold p_X5_isNearer
  rw [gm_abs hl, gm_abs hb, nI_ltI (by omega) (by omega), nI_eq (by omega) (by omega), Int32.le_iff_toInt_le]
  unfold gnr at h1 h0
  refine ⟨fun g => h1 (Or.inl g), fun g => ⟨fun e => ⟨fun z => h0 (by omega), fun z => h1 (Or.inr ⟨e, by omega⟩)⟩, fun e => h0 (by omega)⟩⟩
def gst (l b : Int) : Int := if l.natAbs < b.natAbs then l else if l.natAbs = b.natAbs ∧ b < l then l else b
theorem gst_t {l b : Int} (h : gnr l b) : gst l b = l := by
  unfold gst gnr at *
  split
  · rfl
  · rw [if_pos (by omega)]
theorem gst_f {l b : Int} (h : ¬ gnr l b) : gst l b = b := by
  unfold gst gnr at *
  rw [if_neg (by omega), if_neg (by omega)]
theorem gst_bd {l b : Int} (h : -100 < b ∧ b ≤ 100) : -100 < gst l b ∧ gst l b ≤ 100 := by
  unfold gst
  split
  · omega
  · split <;> omega
def gstr (f : Nat → Bool) (l : Nat → Int) : Nat → Int
  | 0 => 100
  | q + 1 => if f q = true then gst (l q) (gstr f l q) else gstr f l q
theorem gstr_t {f : Nat → Bool} {l : Nat → Int} {q : Nat} (h : f q = true) : gstr f l (q + 1) = gst (l q) (gstr f l q) := if_pos h
theorem gstr_f {f : Nat → Bool} {l : Nat → Int} {q : Nat} (h : ¬ f q = true) : gstr f l (q + 1) = gstr f l q := if_neg h
theorem gstr_bd (f : Nat → Bool) (l : Nat → Int) : ∀ q, -100 < gstr f l q ∧ gstr f l q ≤ 100 := by
  intro q
  induction q with
  | zero => exact (by decide : -100 < (100 : Int) ∧ (100 : Int) ≤ 100)
  | succ q ih =>
    by_cases h : f q = true
    · rw [gstr_t h]; exact gst_bd ih
    · rw [gstr_f h]; exact ih
theorem gm_p7 {x : Int32} {v : Nat} (hx : -9 ≤ x.toInt ∧ x.toInt ≤ 9) (hv : v < 8) : -63 ≤ (x * nI v).toInt ∧ (x * nI v).toInt ≤ 63 := by
  have key : ∀ (a : Int) (b : Nat), -9 ≤ a → a ≤ 9 → b < 8 → -63 ≤ a * (b : Int) ∧ a * (b : Int) ≤ 63 := by
    intro a b h1 h2 h3
    rcases (show b = 0 ∨ b = 1 ∨ b = 2 ∨ b = 3 ∨ b = 4 ∨ b = 5 ∨ b = 6 ∨ b = 7 by omega) with rfl | rfl | rfl | rfl | rfl | rfl | rfl | rfl <;> omega
  have := key x.toInt v hx.1 hx.2 hv
  rw [Int32.toInt_mul, nI_toInt (by omega), gm_bm (by omega) (by omega)]
  exact this
theorem gm_addB {x y : Int32} {a b : Nat} (ha : a < 100000) (hb : b < 100000) (hx : -(a : Int) ≤ x.toInt ∧ x.toInt ≤ a) (hy : -(b : Int) ≤ y.toInt ∧ y.toInt ≤ b) : -((a + b : Nat) : Int) ≤ (x + y).toInt ∧ (x + y).toInt ≤ ((a + b : Nat) : Int) := by
  rw [Int32.toInt_add, gm_bm (by omega) (by omega)]
  omega
theorem gsum_bd {C : Nat → Int32} {p : Nat} (h1 : ∀ j, j < 4 → -9 ≤ (C j).toInt ∧ (C j).toInt ≤ 9) (h2 : -99 ≤ (C 4).toInt ∧ (C 4).toInt ≤ 99) : -400 ≤ (gsum C p).toInt ∧ (gsum C p).toInt ≤ 400 := by
  have q0 := gm_p7 (h1 0 (by decide)) (gv_lt p 0)
  have q1 := gm_p7 (h1 1 (by decide)) (gv_lt p 1)
  have q2 := gm_p7 (h1 2 (by decide)) (gv_lt p 2)
  have q3 := gm_p7 (h1 3 (by decide)) (gv_lt p 3)
  have s1 := gm_addB (a := 63) (b := 63) (by decide) (by decide) q0 q1
  have s2 := gm_addB (a := 63 + 63) (b := 63) (by decide) (by decide) s1 q2
  have s3 := gm_addB (a := 63 + 63 + 63) (b := 63) (by decide) (by decide) s2 q3
  have s4 := gm_addB (a := 63 + 63 + 63 + 63) (b := 99) (by decide) (by decide) s3 h2
  unfold gsum
  omega
theorem s_X5_leastStretch {seen changes : Int32} {h cells : Nat → Int32} {n mo c kd : Nat} {Q : Int32 → Int32 → (Nat → Int32) → Prop} (hn : n ≤ 8) (hm : mo ≤ 7) (hc : c < n) (hv : seen = changes → gVh (fun k j => cells (6 * k + j)) n mo h) (hk : kd ≤ 4) (hkd : cells (6 * c + 5) = nI kd) (hR : gRng n cells)
    (hQ : ∀ h' r, gVh (fun k j => cells (6 * k + j)) n mo h' → r.toInt = gstr (gsp (fun k j => cells (6 * k + j)) n mo c) (fun q => glk kd (gsum (fun j => cells (6 * c + j)) q).toInt) 4096 → Q r changes h') : p_X5_leastStretch seen h (nI n) (nI mo) changes cells (nI c) Q := by
  unfold p_X5_leastStretch p_X9_cell
  obtain ⟨r1, r2, -⟩ := hR c hc
  refine s_X5_lookAt hn hm hv (fun h' hh => s_X9_all hn ⟨gx_in _ (gx_6 c 5) (by omega) (by decide), ?_⟩)
  have e5 : (nI c * (6 : Int32) + (5 : Int32)).toNatClampNeg = 6 * c + 5 := gx_cl _ (gx_6 c 5) (by omega)
  rw [e5, hkd]
  refine gi2_inv 4096 (fun q a b => b = nI q ∧ a.toInt = gstr (gsp (fun k j => cells (6 * k + j)) n mo c) (fun q => glk kd (gsum (fun j => cells (6 * c + j)) q).toInt) q) ?_ ?_ ⟨rfl, rfl⟩
  · rintro q hq X a b ⟨rfl, ha⟩ hX
    unfold p_X5_leastStretch_25 p_X5_leastStretch_79 p_X5_leastStretch_81
    have en : nI q + (1 : Int32) = nI (q + 1) := nI_add q 1
    have hb := gstr_bd (gsp (fun k j => cells (6 * k + j)) n mo c) (fun q => glk kd (gsum (fun j => cells (6 * c + j)) q).toInt) q
    refine ⟨fun g => ?_, fun _ => ⟨vp_in_nI hq (by decide), ?_⟩⟩
    · rw [gl_4095, nI_ltI (by decide) (by omega)] at g; omega
    · rw [nI_clamp (by omega), hh q hq, ghat_sp hn hc, en]
      refine ⟨fun g => s_X9_sumAt (by omega) hq ?_, fun g => hX _ _ ⟨rfl, by rw [gstr_f g]; exact ha⟩⟩
      have sb := gsum_bd (C := fun j => cells (6 * c + j)) (p := q) r1 r2
      refine s_lacking hk sb (fun r hr => ?_)
      have lb := glk_bd (kd := kd) sb
      refine s_isNearer (by omega) (by omega) (fun z => ⟨g10, fun _ => hX _ _ ⟨rfl, ?_⟩⟩) (fun z => ⟨fun _ => hX _ _ ⟨rfl, ?_⟩, g00⟩)
      · rw [gstr_t g, hr]
        rw [hr, ha] at z
        exact (gst_t z).symm
      · rw [gstr_t g, ha]
        rw [hr, ha] at z
        exact (gst_f z).symm
  · rintro X a b ⟨rfl, ha⟩
    unfold p_X5_leastStretch_25
    exact ⟨fun _ => hQ _ _ hh ha, fun g => absurd (by decide) g⟩
theorem ghi_no {kd : Nat} {s : Int} {i : Nat} (hk : kd ≤ 4) (hi : i < (glk kd s).natAbs) : ¬ ghi kd (s + i) ∧ ¬ ghi kd (s - i) := by
  rcases (show kd = 0 ∨ kd = 1 ∨ kd = 2 ∨ kd = 3 ∨ kd = 4 by omega) with rfl | rfl | rfl | rfl | rfl
  · replace hi : i < (if s < 0 then -s else 0).natAbs := hi
    show ¬ 0 ≤ s + i ∧ ¬ 0 ≤ s - i
    split at hi <;> omega
  · replace hi : i < (if 0 < s then -s else 0).natAbs := hi
    show ¬ s + i ≤ 0 ∧ ¬ s - i ≤ 0
    split at hi <;> omega
  · replace hi : i < (-s).natAbs := hi
    show ¬ s + i = 0 ∧ ¬ s - i = 0
    omega
  · replace hi : i < (if s = 0 then (1 : Int) else 0).natAbs := hi
    show ¬ ¬ s + i = 0 ∧ ¬ ¬ s - i = 0
    split at hi <;> omega
  · replace hi : i < (s % 2).natAbs := hi
    show ¬ (s + i) % 2 = 0 ∧ ¬ (s - i) % 2 = 0
    omega
theorem ghi_at {kd : Nat} {s : Int} (hk : kd ≤ 4) : (ghi kd (s + (glk kd s).natAbs) ↔ 0 ≤ glk kd s) ∧ (glk kd s < 0 → ghi kd (s - (glk kd s).natAbs)) := by
  rcases (show kd = 0 ∨ kd = 1 ∨ kd = 2 ∨ kd = 3 ∨ kd = 4 by omega) with rfl | rfl | rfl | rfl | rfl
  · show (0 ≤ s + ((if s < 0 then -s else 0).natAbs : Int) ↔ 0 ≤ (if s < 0 then -s else 0)) ∧ ((if s < 0 then -s else 0) < 0 → 0 ≤ s - ((if s < 0 then -s else 0).natAbs : Int))
    split <;> omega
  · show (s + ((if 0 < s then -s else 0).natAbs : Int) ≤ 0 ↔ 0 ≤ (if 0 < s then -s else 0)) ∧ ((if 0 < s then -s else 0) < 0 → s - ((if 0 < s then -s else 0).natAbs : Int) ≤ 0)
    split <;> omega
  · show (s + ((-s).natAbs : Int) = 0 ↔ 0 ≤ -s) ∧ (-s < 0 → s - ((-s).natAbs : Int) = 0)
    omega
  · show (¬ s + ((if s = 0 then (1 : Int) else 0).natAbs : Int) = 0 ↔ 0 ≤ (if s = 0 then (1 : Int) else 0)) ∧ ((if s = 0 then (1 : Int) else 0) < 0 → ¬ s - ((if s = 0 then (1 : Int) else 0).natAbs : Int) = 0)
    split <;> omega
  · show ((s + ((s % 2).natAbs : Int)) % 2 = 0 ↔ 0 ≤ s % 2) ∧ (s % 2 < 0 → (s - ((s % 2).natAbs : Int)) % 2 = 0)
    omega
def glx (b : Int) : Int32 := if b < 0 then 1 else 0
