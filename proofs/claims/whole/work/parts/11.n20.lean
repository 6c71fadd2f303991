/-! stretch -/
def glk (kd : Nat) (s : Int) : Int := if kd = 0 then (if s < 0 then -s else 0) else if kd = 1 then (if 0 < s then -s else 0) else if kd = 2 then -s else if kd = 3 then (if s = 0 then 1 else 0) else s % 2
def ghi (kd : Nat) (s : Int) : Prop := if kd = 0 then 0 ≤ s else if kd = 1 then s ≤ 0 else if kd = 2 then s = 0 else if kd = 3 then ¬ s = 0 else s % 2 = 0
theorem gm_and1 (s : Int32) : (s &&& (1 : Int32)).toInt = s.toInt % 2 := by
  have h1 : s &&& (1 : Int32) = nI (s.toBitVec.toNat % 2 ^ 1) := pk_and s 1 (by decide)
  have h2 := gm_nat s
  rw [h1, nI_toInt (by omega)]
  omega
theorem gh_iff {kd : Nat} {s : Int32} (hk : kd ≤ 4) : ghold (nI kd) s = true ↔ ghi kd s.toInt := by
  have z0 : (0 : Int32).toInt = 0 := rfl
  rcases (show kd = 0 ∨ kd = 1 ∨ kd = 2 ∨ kd = 3 ∨ kd = 4 by omega) with rfl | rfl | rfl | rfl | rfl
  · show decide (0 ≤ s) = true ↔ 0 ≤ s.toInt
    rw [decide_eq_true_eq, Int32.le_iff_toInt_le, z0]
  · show decide (s ≤ 0) = true ↔ s.toInt ≤ 0
    rw [decide_eq_true_eq, Int32.le_iff_toInt_le, z0]
  · show decide (s = 0) = true ↔ s.toInt = 0
    rw [decide_eq_true_eq, gm_z]
  · show decide (¬ s = 0) = true ↔ ¬ s.toInt = 0
    rw [decide_eq_true_eq, gm_z]
  · show decide (s &&& (1 : Int32) = 0) = true ↔ s.toInt % 2 = 0
    rw [decide_eq_true_eq, gm_z, gm_and1]
theorem glk_bd {kd : Nat} {s : Int} (hs : -400 ≤ s ∧ s ≤ 400) : -400 ≤ glk kd s ∧ glk kd s ≤ 400 := by
  unfold glk
  split
  · split <;> omega
  · split
    · split <;> omega
    · split
      · omega
      · split
        · split <;> omega
        · omega
theorem gm_negI {s : Int32} (hs : -400 ≤ s.toInt ∧ s.toInt ≤ 400) : (-s).toInt = -s.toInt := by
  rw [Int32.toInt_neg, gm_bm (by omega) (by omega)]
theorem s_lacking {kd : Nat} {s : Int32} {Q : Int32 → Prop} (hk : kd ≤ 4) (hs : -400 ≤ s.toInt ∧ s.toInt ≤ 400) (hQ : ∀ r : Int32, r.toInt = glk kd s.toInt → Q r) : p_X1_lacking (nI kd) s Q := by
  have z0 : (0 : Int32).toInt = 0 := rfl
  have en := gm_negI hs
  unfold p_X1_lacking
  rw [gl_0, gl_1, gl_2, gl_3, nI_eq (by omega) (by decide), nI_eq (by omega) (by decide), nI_eq (by omega) (by decide), nI_eq (by omega) (by decide)]
  rw [← gl_0, ← gl_1]
  refine ⟨fun e => hQ _ ?_, fun e0 => ⟨fun e => hQ _ ?_, fun e1 => ⟨fun e => hQ _ ?_, fun e2 => ⟨fun e => ⟨fun y => hQ _ ?_, fun y => hQ _ ?_⟩, fun e3 => hQ _ ?_⟩⟩⟩⟩
  · subst e
    show _ = if s.toInt < 0 then -s.toInt else 0
    by_cases h : s.toInt < 0
    · rw [if_pos h, if_pos (by rw [Int32.lt_iff_toInt_lt, en, z0]; omega), en]
    · rw [if_neg h, if_neg (by rw [Int32.lt_iff_toInt_lt, en, z0]; omega)]
      rfl
  · subst e
    show _ = if 0 < s.toInt then -s.toInt else 0
    by_cases h : 0 < s.toInt
    · rw [if_pos h, if_pos (by rw [Int32.lt_iff_toInt_lt, en, z0]; omega), en]
    · rw [if_neg h, if_neg (by rw [Int32.lt_iff_toInt_lt, en, z0]; omega)]
      rfl
  · subst e
    exact en
  · subst e
    show _ = if s.toInt = 0 then (1 : Int) else 0
    rw [if_pos (gm_z.mp y)]
    rfl
  · subst e
    show _ = if s.toInt = 0 then (1 : Int) else 0
    rw [if_neg (fun z => y (gm_z.mpr z))]
    rfl
  · unfold glk
    rw [if_neg e0, if_neg e1, if_neg e2, if_neg e3]
    exact gm_and1 s
def gnr (l b : Int) : Prop := l.natAbs < b.natAbs ∨ (l.natAbs = b.natAbs ∧ b < l)
theorem s_isNearer {l b : Int32} {Q : Int32 → Prop} (hl : l.toInt.natAbs < 2 ^ 30) (hb : b.toInt.natAbs < 2 ^ 30) (h1 : gnr l.toInt b.toInt → Q 1) (h0 : ¬ gnr l.toInt b.toInt → Q 0) : p_X5_isNearer l b Q := by
  unfold p_X5_isNearer
  rw [gm_abs hl, gm_abs hb, nI_ltI (by omega) (by omega), nI_eq (by omega) (by omega), Int32.le_iff_toInt_le]
  unfold gnr at h1 h0
  refine ⟨fun g => h1 (Or.inl g), fun g => ⟨fun e => ⟨fun z => h0 (by omega), fun z => h1 (Or.inr ⟨e, by omega⟩)⟩, fun e => h0 (by omega)⟩⟩
def gst (l b : Int) : Int := if l.natAbs < b.natAbs then l else if l.natAbs = b.natAbs ∧ b < l then l else b
theorem gst_t {l b : Int} (h : gnr l b) : gst l b = l := by
  unfold gst gnr at *
  split
  · rfl
  · rw [if_pos (by omega)]
theorem gst_f {l b : Int} (h : ¬ gnr l b) : gst l b = b := by
  unfold gst gnr at *
  rw [if_neg (by omega), if_neg (by omega)]
theorem gst_bd {l b : Int} (h : -100 < b ∧ b ≤ 100) : -100 < gst l b ∧ gst l b ≤ 100 := by
  unfold gst
  split
  · omega
  · split <;> omega
def gstr (f : Nat → Bool) (l : Nat → Int) : Nat → Int
  | 0 => 100
  | q + 1 => if f q = true then gst (l q) (gstr f l q) else gstr f l q
theorem gstr_t {f : Nat → Bool} {l : Nat → Int} {q : Nat} (h : f q = true) : gstr f l (q + 1) = gst (l q) (gstr f l q) := if_pos h
theorem gstr_f {f : Nat → Bool} {l : Nat → Int} {q : Nat} (h : ¬ f q = true) : gstr f l (q + 1) = gstr f l q := if_neg h
theorem gstr_bd (f : Nat → Bool) (l : Nat → Int) : ∀ q, -100 < gstr f l q ∧ gstr f l q ≤ 100 := by
  intro q
  induction q with
  | zero => exact (by decide : -100 < (100 : Int) ∧ (100 : Int) ≤ 100)
  | succ q ih =>
    by_cases h : f q = true
    · rw [gstr_t h]; exact gst_bd ih
    · rw [gstr_f h]; exact ih
theorem gm_p7 {x : Int32} {v : Nat} (hx : -9 ≤ x.toInt ∧ x.toInt ≤ 9) (hv : v < 8) : -63 ≤ (x * nI v).toInt ∧ (x * nI v).toInt ≤ 63 := by
  have key : ∀ (a : Int) (b : Nat), -9 ≤ a → a ≤ 9 → b < 8 → -63 ≤ a * (b : Int) ∧ a * (b : Int) ≤ 63 := by
    intro a b h1 h2 h3
    rcases (show b = 0 ∨ b = 1 ∨ b = 2 ∨ b = 3 ∨ b = 4 ∨ b = 5 ∨ b = 6 ∨ b = 7 by omega) with rfl | rfl | rfl | rfl | rfl | rfl | rfl | rfl <;> omega
  have := key x.toInt v hx.1 hx.2 hv
  rw [Int32.toInt_mul, nI_toInt (by omega), gm_bm (by omega) (by omega)]
  exact this
theorem gm_addB {x y : Int32} {a b : Nat} (ha : a < 100000) (hb : b < 100000) (hx : -(a : Int) ≤ x.toInt ∧ x.toInt ≤ a) (hy : -(b : Int) ≤ y.toInt ∧ y.toInt ≤ b) : -((a + b : Nat) : Int) ≤ (x + y).toInt ∧ (x + y).toInt ≤ ((a + b : Nat) : Int) := by
  rw [Int32.toInt_add, gm_bm (by omega) (by omega)]
  omega
theorem gsum_bd {C : Nat → Int32} {p : Nat} (h1 : ∀ j, j < 4 → -9 ≤ (C j).toInt ∧ (C j).toInt ≤ 9) (h2 : -99 ≤ (C 4).toInt ∧ (C 4).toInt ≤ 99) : -400 ≤ (gsum C p).toInt ∧ (gsum C p).toInt ≤ 400 := by
  have q0 := gm_p7 (h1 0 (by decide)) (gv_lt p 0)
  have q1 := gm_p7 (h1 1 (by decide)) (gv_lt p 1)
  have q2 := gm_p7 (h1 2 (by decide)) (gv_lt p 2)
  have q3 := gm_p7 (h1 3 (by decide)) (gv_lt p 3)
  have s1 := gm_addB (a := 63) (b := 63) (by decide) (by decide) q0 q1
  have s2 := gm_addB (a := 63 + 63) (b := 63) (by decide) (by decide) s1 q2
  have s3 := gm_addB (a := 63 + 63 + 63) (b := 63) (by decide) (by decide) s2 q3
  have s4 := gm_addB (a := 63 + 63 + 63 + 63) (b := 99) (by decide) (by decide) s3 h2
  unfold gsum
  omega
theorem s_X5_leastStretch {seen changes : Int32} {h cells : Nat → Int32} {n mo c kd : Nat} {Q : Int32 → Int32 → (Nat → Int32) → Prop} (hn : n ≤ 8) (hm : mo ≤ 7) (hc : c < n) (hv : seen = changes → gVh (fun k j => cells (6 * k + j)) n mo h) (hk : kd ≤ 4) (hkd : cells (6 * c + 5) = nI kd) (hR : gRng n cells)
    (hQ : ∀ h' r, gVh (fun k j => cells (6 * k + j)) n mo h' → r.toInt = gstr (gsp (fun k j => cells (6 * k + j)) n mo c) (fun q => glk kd (gsum (fun j => cells (6 * c + j)) q).toInt) 4096 → Q r changes h') : p_X5_leastStretch seen h (nI n) (nI mo) changes cells (nI c) Q := by
  unfold p_X5_leastStretch p_X9_cell
  obtain ⟨r1, r2, -⟩ := hR c hc
  refine s_X5_lookAt hn hm hv (fun h' hh => s_X9_all hn ⟨gx_in _ (gx_6 c 5) (by omega) (by decide), ?_⟩)
  have e5 : (nI c * (6 : Int32) + (5 : Int32)).toNatClampNeg = 6 * c + 5 := gx_cl _ (gx_6 c 5) (by omega)
  rw [e5, hkd]
  refine gi2_inv 4096 (fun q a b => b = nI q ∧ a.toInt = gstr (gsp (fun k j => cells (6 * k + j)) n mo c) (fun q => glk kd (gsum (fun j => cells (6 * c + j)) q).toInt) q) ?_ ?_ ⟨rfl, rfl⟩
  · rintro q hq X a b ⟨rfl, ha⟩ hX
    unfold p_X5_leastStretch_25 p_X5_leastStretch_79 p_X5_leastStretch_81
    have en : nI q + (1 : Int32) = nI (q + 1) := nI_add q 1
    have hb := gstr_bd (gsp (fun k j => cells (6 * k + j)) n mo c) (fun q => glk kd (gsum (fun j => cells (6 * c + j)) q).toInt) q
    refine ⟨fun g => ?_, fun _ => ⟨vp_in_nI hq (by decide), ?_⟩⟩
    · rw [gl_4095, nI_ltI (by decide) (by omega)] at g; omega
    · rw [nI_clamp (by omega), hh q hq, ghat_sp hn hc, en]
      refine ⟨fun g => s_X9_sumAt (by omega) hq ?_, fun g => hX _ _ ⟨rfl, by rw [gstr_f g]; exact ha⟩⟩
      have sb := gsum_bd (C := fun j => cells (6 * c + j)) (p := q) r1 r2
      refine s_lacking hk sb (fun r hr => ?_)
      have lb := glk_bd (kd := kd) sb
      refine s_isNearer (by omega) (by omega) (fun z => ⟨g10, fun _ => hX _ _ ⟨rfl, ?_⟩⟩) (fun z => ⟨fun _ => hX _ _ ⟨rfl, ?_⟩, g00⟩)
      · rw [gstr_t g, hr]
        rw [hr, ha] at z
        exact (gst_t z).symm
      · rw [gstr_t g, ha]
        rw [hr, ha] at z
        exact (gst_f z).symm
  · rintro X a b ⟨rfl, ha⟩
    unfold p_X5_leastStretch_25
    exact ⟨fun _ => hQ _ _ hh ha, fun g => absurd (by decide) g⟩
theorem ghi_no {kd : Nat} {s : Int} {i : Nat} (hk : kd ≤ 4) (hi : i < (glk kd s).natAbs) : ¬ ghi kd (s + i) ∧ ¬ ghi kd (s - i) := by
  rcases (show kd = 0 ∨ kd = 1 ∨ kd = 2 ∨ kd = 3 ∨ kd = 4 by omega) with rfl | rfl | rfl | rfl | rfl
  · replace hi : i < (if s < 0 then -s else 0).natAbs := hi
    show ¬ 0 ≤ s + i ∧ ¬ 0 ≤ s - i
    split at hi <;> omega
  · replace hi : i < (if 0 < s then -s else 0).natAbs := hi
    show ¬ s + i ≤ 0 ∧ ¬ s - i ≤ 0
    split at hi <;> omega
  · replace hi : i < (-s).natAbs := hi
    show ¬ s + i = 0 ∧ ¬ s - i = 0
    omega
  · replace hi : i < (if s = 0 then (1 : Int) else 0).natAbs := hi
    show ¬ ¬ s + i = 0 ∧ ¬ ¬ s - i = 0
    split at hi <;> omega
  · replace hi : i < (s % 2).natAbs := hi
    show ¬ (s + i) % 2 = 0 ∧ ¬ (s - i) % 2 = 0
    omega
theorem ghi_at {kd : Nat} {s : Int} (hk : kd ≤ 4) : (ghi kd (s + (glk kd s).natAbs) ↔ 0 ≤ glk kd s) ∧ (glk kd s < 0 → ghi kd (s - (glk kd s).natAbs)) := by
  rcases (show kd = 0 ∨ kd = 1 ∨ kd = 2 ∨ kd = 3 ∨ kd = 4 by omega) with rfl | rfl | rfl | rfl | rfl
  · show (0 ≤ s + ((if s < 0 then -s else 0).natAbs : Int) ↔ 0 ≤ (if s < 0 then -s else 0)) ∧ ((if s < 0 then -s else 0) < 0 → 0 ≤ s - ((if s < 0 then -s else 0).natAbs : Int))
    split <;> omega
  · show (s + ((if 0 < s then -s else 0).natAbs : Int) ≤ 0 ↔ 0 ≤ (if 0 < s then -s else 0)) ∧ ((if 0 < s then -s else 0) < 0 → s - ((if 0 < s then -s else 0).natAbs : Int) ≤ 0)
    split <;> omega
  · show (s + ((-s).natAbs : Int) = 0 ↔ 0 ≤ -s) ∧ (-s < 0 → s - ((-s).natAbs : Int) = 0)
    omega
  · show (¬ s + ((if s = 0 then (1 : Int) else 0).natAbs : Int) = 0 ↔ 0 ≤ (if s = 0 then (1 : Int) else 0)) ∧ ((if s = 0 then (1 : Int) else 0) < 0 → ¬ s - ((if s = 0 then (1 : Int) else 0).natAbs : Int) = 0)
    split <;> omega
  · show ((s + ((s % 2).natAbs : Int)) % 2 = 0 ↔ 0 ≤ s % 2) ∧ (s % 2 < 0 → (s - ((s % 2).natAbs : Int)) % 2 = 0)
    omega
def glx (b : Int) : Int32 := if b < 0 then 1 else 0
theorem s_X11_stretch_89 {kd : Nat} {x6 sum : Int32} {b : Int} {K : Int32 → Int32 → Int32 → Prop} (hk : kd ≤ 4) (hs : -400 ≤ sum.toInt ∧ sum.toInt ≤ 400) (hb : -100 < b ∧ b ≤ 100) (hK : K (nI (gst (glk kd sum.toInt) b).natAbs) (glx (gst (glk kd sum.toInt) b)) (x6 + 1)) : ∃ n, gi3 (p_X11_stretch_89 (nI kd) x6 sum K) n (nI b.natAbs) (glx b) (0 : Int32) := by
  have lb := glk_bd (kd := kd) hs
  have hat := ghi_at (kd := kd) (s := sum.toInt) hk
  have hno : ∀ i, i < (glk kd sum.toInt).natAbs → ¬ ghi kd (sum.toInt + i) ∧ ¬ ghi kd (sum.toInt - i) := fun i hi => ghi_no hk hi
  revert hK hat hno lb
  generalize glk kd sum.toInt = l
  intro hK lb hat hno
  have hadd : ∀ i : Nat, i < 1000 → (sum + nI i).toInt = sum.toInt + i := by
    intro i hi
    rw [Int32.toInt_add, nI_toInt (by omega), gm_bm (by omega) (by omega)]
  have hsub : ∀ i : Nat, i < 1000 → (sum - nI i).toInt = sum.toInt - i := by
    intro i hi
    rw [Int32.toInt_sub, nI_toInt (by omega), gm_bm (by omega) (by omega)]
  have stay : ¬ gnr l b → p_X11_stretch_178 (nI b.natAbs) (glx b) x6 K := by
    intro z
    rw [gst_f z] at hK
    exact hK
  refine gi3_inv 101 (fun i a c d => (d = nI i ∧ i ≤ l.natAbs ∧ a = nI b.natAbs ∧ c = glx b) ∨ (d = nI (l.natAbs + 1) ∧ a = nI l.natAbs ∧ (gst l b).natAbs = l.natAbs ∧ c = glx (gst l b))) ?_ ?_ (Or.inl ⟨rfl, Nat.zero_le _, rfl, rfl⟩)
  · rintro i hi X a c d hI hX
    unfold p_X11_stretch_89
    rcases hI with ⟨rfl, i1, rfl, rfl⟩ | ⟨rfl, rfl, i3, rfl⟩
    · rw [nI_ltI (by omega) (by omega), show (100 : Int32) = nI 100 from rfl, nI_leI (by omega) (by omega)]
      refine ⟨fun g => stay (by unfold gnr; omega), fun g => ⟨fun g2 => stay (by unfold gnr; omega), fun g2 => s_X11_holdsBy ?_⟩⟩
      have ha := hadd i (by omega)
      have hb' := hsub i (by omega)
      have en : nI i + (1 : Int32) = nI (i + 1) := nI_add i 1
      by_cases e : i < l.natAbs
      · obtain ⟨n1, n2⟩ := hno i e
        have f1 : ¬ ghold (nI kd) (sum + nI i) = true := by rw [gh_iff hk, ha]; exact n1
        have f2 : ¬ ghold (nI kd) (sum - nI i) = true := by rw [gh_iff hk, hb']; exact n2
        rw [if_neg f1]
        refine ⟨fun _ => s_X11_holdsBy ?_, g00⟩
        rw [if_neg f2]
        refine ⟨fun _ => ?_, g00⟩
        unfold p_X11_stretch_172
        rw [en]
        exact hX _ _ _ (Or.inl ⟨rfl, by omega, rfl, rfl⟩)
      · have ei : i = l.natAbs := by omega
        subst ei
        have found : ∀ more : Int32, (more = 0 ↔ l < 0) → p_X11_stretch_131 (nI b.natAbs) (glx b) (nI l.natAbs) more X := by
          intro more hmore
          have go : ∀ x : Int32, x = glx (gst l b) → (gst l b).natAbs = l.natAbs → p_X11_stretch_166 (nI l.natAbs) x X := by
            intro x hx hn
            unfold p_X11_stretch_166 p_X11_stretch_172
            rw [en]
            exact hX _ _ _ (Or.inr ⟨rfl, rfl, hn, hx⟩)
          have hgs : (b.natAbs = l.natAbs → b < l → gst l b = l) ∧ (b.natAbs = l.natAbs → ¬ b < l → gst l b = b) ∧ (l.natAbs < b.natAbs → gst l b = l) := by
            refine ⟨fun z1 z2 => gst_t (Or.inr ⟨z1.symm, z2⟩), fun z1 z2 => gst_f (by unfold gnr; omega), fun z => gst_t (Or.inl z)⟩
          unfold p_X11_stretch_131 p_X11_stretch_165
          rw [nI_leI (by omega) (by omega), hmore]
          refine ⟨fun g3 => ?_, fun g3 => ?_⟩
          · have eq : b.natAbs = l.natAbs := by omega
            by_cases hlt : b < l
            · have e1 := hgs.1 eq hlt
              have e2 : glx b = 1 := if_pos (by omega)
              rw [e2]
              refine ⟨g10, fun _ => ⟨fun z => by omega, fun _ => go 0 ?_ (by rw [e1])⟩⟩
              rw [e1]
              exact (if_neg (by omega)).symm
            · have e1 := hgs.2.1 eq hlt
              have fin : ∀ x : Int32, x = glx b → p_X11_stretch_166 (nI l.natAbs) x X := fun x hx => go x (by rw [e1]; exact hx) (by rw [e1]; exact eq)
              by_cases hb0 : b < 0
              · have e2 : glx b = 1 := if_pos hb0
                rw [e2]
                refine ⟨g10, fun _ => ⟨fun _ => fin 1 e2.symm, fun z => by omega⟩⟩
              · have e2 : glx b = 0 := if_neg hb0
                rw [e2]
                exact ⟨fun _ => fin 0 e2.symm, g00⟩
          · have e1 := hgs.2.2 (by omega)
            refine ⟨fun z => go 1 ?_ (by rw [e1]), fun z => go 0 ?_ (by rw [e1])⟩
            · rw [e1]; exact (if_pos z).symm
            · rw [e1]; exact (if_neg z).symm
        by_cases h0l : 0 ≤ l
        · have f1 : ghold (nI kd) (sum + nI l.natAbs) = true := by rw [gh_iff hk, ha]; exact hat.1.mpr h0l
          rw [if_pos f1]
          exact ⟨g10, fun _ => found 1 ⟨fun z => absurd z (by decide), fun z => by omega⟩⟩
        · have f1 : ¬ ghold (nI kd) (sum + nI l.natAbs) = true := by rw [gh_iff hk, ha, hat.1]; exact h0l
          have f2 : ghold (nI kd) (sum - nI l.natAbs) = true := by rw [gh_iff hk, hb']; exact hat.2 (by omega)
          rw [if_neg f1]
          refine ⟨fun _ => s_X11_holdsBy ?_, g00⟩
          rw [if_pos f2]
          exact ⟨g10, fun _ => found 0 ⟨fun _ => by omega, fun _ => rfl⟩⟩
    · refine ⟨fun _ => ?_, fun g => absurd (by rw [nI_ltI (by omega) (by omega)]; omega) g⟩
      unfold p_X11_stretch_178
      rw [i3] at hK
      exact hK
  · rintro X a c d hI
    unfold p_X11_stretch_89
    rcases hI with ⟨rfl, i1, rfl, rfl⟩ | ⟨rfl, rfl, i3, rfl⟩
    · refine ⟨fun _ => stay (by unfold gnr; omega), fun g => absurd (by rw [nI_ltI (by omega) (by omega)]; omega) g⟩
    · refine ⟨fun _ => ?_, fun g => absurd (by rw [nI_ltI (by omega) (by omega)]; omega) g⟩
      unfold p_X11_stretch_178
      rw [i3] at hK
      exact hK
theorem s_X11_stretch {many : Int32} {holds now points : Nat → Int32} {n mo c kd : Nat} {Q : Int32 → Int32 → (Nat → Int32) → (Nat → Int32) → Prop} (h0 : now 0 = nI n) (h1 : now 1 = nI mo) (hn : n ≤ 8) (hm : mo ≤ 7) (hc : c < n) (hk : kd ≤ 4) (hkd : now (3 + 6 * c + 5) = nI kd) (hsum : ∀ q, -400 ≤ (gsum (fun j => now (3 + 6 * c + j)) q).toInt ∧ (gsum (fun j => now (3 + 6 * c + j)) q).toInt ≤ 400)
    (hQ : ∀ m hs ps r, ((gstr (gsp (fun k j => now (3 + 6 * k + j)) n mo c) (fun q => glk kd (gsum (fun j => now (3 + 6 * c + j)) q).toInt) 4096 = 100 ∧ r = -1000004) ∨ (¬ gstr (gsp (fun k j => now (3 + 6 * k + j)) n mo c) (fun q => glk kd (gsum (fun j => now (3 + 6 * c + j)) q).toInt) 4096 = 100 ∧ r.toInt = gstr (gsp (fun k j => now (3 + 6 * k + j)) n mo c) (fun q => glk kd (gsum (fun j => now (3 + 6 * c + j)) q).toInt) 4096)) → Q r m hs ps) : p_X11_stretch many holds now points (nI c) Q := by
  unfold p_X11_stretch
  refine s_one_in h0 hc hn ⟨g10, fun _ => s_X11_lays h0 h1 hn hm (fun hs ps hL => s_X11_all h0 hn (fun z6 hz6 => ⟨gx_in _ (gx_m6j c 5) (by omega) (by decide), fun z8 hz8 => ?_⟩))⟩
  have e5 : ((3 : Int32) + (6 : Int32) * nI c + (5 : Int32)).toNatClampNeg = 3 + 6 * c + 5 := gx_cl _ (gx_m6j c 5) (by omega)
  rw [e5, hkd] at hz8
  subst hz8
  have hle := gcnt_le (gbox mo) 4096
  obtain ⟨G, hG⟩ := gwalk (gbox mo) (fun q => gstr (gsp (fun k j => now (3 + 6 * k + j)) n mo c) (fun q => glk kd (gsum (fun j => now (3 + 6 * c + j)) q).toInt) q) (fun q hq => by
    refine gstr_f (fun z => hq ?_)
    unfold gsp at z
    rw [Bool.and_eq_true] at z
    exact z.1) 4096
  have G0 : G 0 = 100 := hG 0 (by decide)
  refine gi3_inv (gcnt (gbox mo) 4096) (fun k a b d => d = nI k ∧ a = nI (G k).natAbs ∧ b = glx (G k) ∧ -100 < G k ∧ G k ≤ 100) ?_ ?_ ⟨rfl, by rw [G0]; rfl, by rw [G0]; rfl, by rw [G0]; decide, by rw [G0]; decide⟩
  · rintro k hk2 X a b d ⟨rfl, rfl, rfl, b1, b2⟩ hX
    obtain ⟨q, hq, hb, hc2⟩ := gcnt_sur (gbox mo) 4096 k hk2
    obtain ⟨l1, l2⟩ := hL q hq hb
    have g1 := hG q (by omega)
    have g2 := hG (q + 1) (by omega)
    rw [gcnt_s hb] at g2
    rw [hc2] at l1 l2 g1 g2
    have bd := gstr_bd (gsp (fun k j => now (3 + 6 * k + j)) n mo c) (fun q => glk kd (gsum (fun j => now (3 + 6 * c + j)) q).toInt) (q + 1)
    have en : nI k + (1 : Int32) = nI (k + 1) := nI_add k 1
    have hsp := gsp_and (C := fun k j => now (3 + 6 * k + j)) (n := n) (mo := mo) (k := c) (q := q) hn hc
    unfold p_X11_stretch_50
    refine ⟨fun g => ?_, fun _ => ⟨vp_in_nI (by omega) (by decide), ?_⟩⟩
    · rw [nI_leI (by omega) (by omega)] at g; omega
    · rw [nI_clamp (by omega), l1, l2, hz6]
      refine ⟨fun g => ⟨vp_in_nI (by omega) (by decide), s_X11_sumOf (by omega) hq ?_⟩, fun g => ?_⟩
      · have hf := hsp.mpr ⟨hb, g⟩
        refine s_X11_stretch_89 hk (hsum q) ⟨b1, b2⟩ ?_
        have e : G (k + 1) = gst (glk kd (gsum (fun j => now (3 + 6 * c + j)) q).toInt) (G k) := by
          rw [g2, gstr_t hf, g1]
        rw [← e, en]
        exact hX _ _ _ ⟨rfl, rfl, rfl, by rw [g2]; exact bd.1, by rw [g2]; exact bd.2⟩
      · have hf : ¬ gsp (fun k j => now (3 + 6 * k + j)) n mo c q = true := fun z => g (hsp.mp z).2
        have e : G (k + 1) = G k := by rw [g2, gstr_f hf, g1]
        unfold p_X11_stretch_178
        rw [en]
        exact hX _ _ _ ⟨rfl, by rw [e], by rw [e], by rw [e]; exact b1, by rw [e]; exact b2⟩
  · rintro X a b d ⟨rfl, rfl, rfl, b1, b2⟩
    have g1 := hG 4096 (by decide)
    unfold p_X11_stretch_50
    refine ⟨fun _ => ?_, fun g => absurd (by rw [nI_leI (by omega) (by omega)]; exact Nat.le_refl _) g⟩
    have hh := hQ (nI (gcnt (gbox mo) 4096)) hs ps
    rw [← g1] at hh
    rw [show (100 : Int32) = nI 100 from rfl, nI_eq (by omega) (by decide)]
    refine ⟨fun g => hh _ (Or.inl ⟨by omega, rfl⟩), fun g => ⟨fun z => hh _ (Or.inr ⟨by omega, ?_⟩), fun z => hh _ (Or.inr ⟨by omega, ?_⟩)⟩⟩
    · rw [nI_toInt (by omega)]
      by_cases hz : G (gcnt (gbox mo) 4096) < 0
      · have : glx (G (gcnt (gbox mo) 4096)) = 1 := if_pos hz
        rw [this] at z
        exact absurd z (by decide)
      · omega
    · by_cases hz : G (gcnt (gbox mo) 4096) < 0
      · rw [Int32.toInt_neg, nI_toInt (by omega), gm_bm (by omega) (by omega)]
        omega
      · exact absurd (if_neg hz) z
theorem o_stretch {n mo : Nat} {cells now h holds points : Nat → Int32} {size most draw changes seen many a1 : Int32} {X : Int32 → (Nat → Int32) → Int32 → (Nat → Int32) → (Nat → Int32) → Prop} (hS : gSnap n mo cells size most draw now) (hv : seen = changes → gVh (fun k j => cells (6 * k + j)) n mo h) (hX0 : X seen h many holds points)
    (hX1 : ∀ h' m hs ps, gVh (fun k j => cells (6 * k + j)) n mo h' → X changes h' m hs ps) : p_X10_stretch size most changes cells seen h a1 (fun r1 y2 y3 => p_X11_stretch many holds now points a1 (fun r4 y5 y6 y7 => r1 = r4 ∧ X y2 y3 y5 y6 y7)) := by
  have hF := gsp_fn hS
  obtain ⟨hn, -, hm, rfl, rfl, h0, h1, -, -, hc, hR⟩ := id hS
  unfold p_X10_stretch
  by_cases hk : ∃ k, k < n ∧ a1 = nI k
  · obtain ⟨c, hcn, rfl⟩ := hk
    obtain ⟨r1, r2, kd, k4, k5⟩ := hR c hcn
    have hsm : ∀ q, gsum (fun j => cells (6 * c + j)) q = gsum (fun j => now (3 + 6 * c + j)) q := fun q => gsum_cg (fun j hj => hc c hcn j (by omega))
    have hsb : ∀ q, -400 ≤ (gsum (fun j => now (3 + 6 * c + j)) q).toInt ∧ (gsum (fun j => now (3 + 6 * c + j)) q).toInt ≤ 400 := fun q => by
      rw [← hsm q]
      exact gsum_bd r1 r2
    have hkn : now (3 + 6 * c + 5) = nI kd := by rw [← hc c hcn 5 (by decide), k5]
    refine s_noC_in hcn hn ⟨fun _ => s_X5_leastStretch hn hm hcn hv k4 k5 hR (fun h' r hh hr => ?_), g00⟩
    have bd := gstr_bd (gsp (fun k j => now (3 + 6 * k + j)) n mo c) (fun q => glk kd (gsum (fun j => now (3 + 6 * c + j)) q).toInt) 4096
    have hfe : (fun q => glk kd (gsum (fun j => cells (6 * c + j)) q).toInt) = (fun q => glk kd (gsum (fun j => now (3 + 6 * c + j)) q).toInt) := by
      funext q
      rw [hsm q]
    rw [hF, hfe] at hr
    rw [gm_abs (by omega), show (99 : Int32) = nI 99 from rfl, nI_leI (by omega) (by decide)]
    refine ⟨fun g => s_X11_stretch h0 h1 hn hm hcn k4 hkn hsb (fun m hs ps r' hr' => ⟨?_, hX1 _ _ _ _ hh⟩), fun g => s_X11_stretch h0 h1 hn hm hcn k4 hkn hsb (fun m hs ps r' hr' => ⟨?_, hX1 _ _ _ _ hh⟩)⟩
    · rcases hr' with ⟨z1, z2⟩ | ⟨z1, z2⟩
      · omega
      · exact Int32.toInt_inj.mp (by rw [hr, z2])
    · rcases hr' with ⟨z1, z2⟩ | ⟨z1, z2⟩
      · rw [z2]
      · omega
  · refine s_noC_out hk hn ⟨g10, fun _ => ?_⟩
    unfold p_X11_stretch
    exact s_one_out h0 hk hn ⟨fun _ => ⟨rfl, hX0⟩, g00⟩
