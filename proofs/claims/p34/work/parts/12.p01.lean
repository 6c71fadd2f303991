/-! what is told, by constraints alone; the calls of the class over it -/
def gRC (n : Nat) (C : Nat → Nat → Int32) : Prop := ∀ k, k < n → (∀ j, j < 4 → -9 ≤ (C k j).toInt ∧ (C k j).toInt ≤ 9) ∧ (-99 ≤ (C k 4).toInt ∧ (C k 4).toInt ≤ 99) ∧ ∃ c, c ≤ 4 ∧ C k 5 = nI c
def gTc (n mo : Nat) (C : Nat → Nat → Int32) (cells : Nat → Int32) (size most : Int32) : Prop := n ≤ 8 ∧ 1 ≤ mo ∧ mo ≤ 7 ∧ size = nI n ∧ most = nI mo ∧ (∀ k, k < n → ∀ j, j < 6 → cells (6 * k + j) = C k j) ∧ gRC n C
theorem gTc.rng {n mo : Nat} {C : Nat → Nat → Int32} {cells : Nat → Int32} {size most : Int32} (h : gTc n mo C cells size most) : gRng n cells := by
  obtain ⟨hn, -, -, -, -, hc, hr⟩ := h
  intro k hk
  obtain ⟨a, b, c⟩ := hr k hk
  refine ⟨fun j hj => ?_, ?_, ?_⟩
  · rw [hc k hk j (by omega)]; exact a j hj
  · rw [hc k hk 4 (by omega)]; exact b
  · rw [hc k hk 5 (by omega)]; exact c
theorem gTc.cg {n mo : Nat} {C : Nat → Nat → Int32} {cells cells' : Nat → Int32} {size most : Int32} (h : gTc n mo C cells size most) (hc' : ∀ q, q < 48 → cells' q = cells q) : gTc n mo C cells' size most := by
  obtain ⟨hn, h1, h2, h3, h4, hc, hr⟩ := h
  exact ⟨hn, h1, h2, h3, h4, fun k hk j hj => by rw [hc' _ (by omega)]; exact hc k hk j hj, hr⟩
theorem gTc.cgC {n mo : Nat} {C D : Nat → Nat → Int32} {cells : Nat → Int32} {size most : Int32} (h : gTc n mo C cells size most) (hd : ∀ k, k < n → ∀ j, j < 6 → D k j = C k j) : gTc n mo D cells size most := by
  obtain ⟨hn, h1, h2, h3, h4, hc, hr⟩ := h
  refine ⟨hn, h1, h2, h3, h4, fun k hk j hj => by rw [hd k hk j hj]; exact hc k hk j hj, fun k hk => ?_⟩
  obtain ⟨a, b, c⟩ := hr k hk
  refine ⟨fun j hj => ?_, ?_, ?_⟩
  · rw [hd k hk j (by omega)]; exact a j hj
  · rw [hd k hk 4 (by omega)]; exact b
  · rw [hd k hk 5 (by omega)]; exact c
theorem gTc.mask {n mo : Nat} {C : Nat → Nat → Int32} {cells : Nat → Int32} {size most : Int32} (h : gTc n mo C cells size most) : gmask (fun k j => cells (6 * k + j)) n = gmask C n := by
  funext p
  exact gmask_cg h.2.2.2.2.2.1
theorem gTc.full {n mo : Nat} {C : Nat → Nat → Int32} {cells : Nat → Int32} {size most : Int32} (h : gTc n mo C cells size most) : gfull (fun k j => cells (6 * k + j)) n mo = gfull C n mo := by
  funext p
  exact gfull_cg h.2.2.2.2.2.1
theorem gTc.sp {n mo : Nat} {C : Nat → Nat → Int32} {cells : Nat → Int32} {size most : Int32} (h : gTc n mo C cells size most) : gsp (fun k j => cells (6 * k + j)) n mo = gsp C n mo := by
  funext k q
  unfold gsp
  rw [h.mask]
theorem gTc.LN {n mo : Nat} {C : Nat → Nat → Int32} {cells : Nat → Int32} {size most : Int32} (h : gTc n mo C cells size most) : gLN (fun k j => cells (6 * k + j)) n mo = gLN C n mo := by
  funext s
  unfold gLN
  rw [h.mask]
def gup (u : Nat) : Nat := if u = 8 then 8 else u + 1
theorem gup_le {u : Nat} (h : u ≤ 8) : gup u ≤ 8 := by
  unfold gup
  split <;> omega
theorem k_keep {u : Nat} {known size most draw : Int32} {cells past : Nat → Int32} {Q : Int32 → (Nat → Int32) → Prop} (hu : u ≤ 8) (hk : known = nI u) (hQ : ∀ past', Q (nI (gup u)) past') : p_X0_keep known size most draw cells past Q := by
  refine s_X0_keep hu hk (fun v d past' hs _ _ _ _ _ => ?_)
  have e : v + 1 = gup u := by
    unfold gup
    rcases hs with ⟨h1, h2, -⟩ | ⟨h1, h2, -⟩
    · rw [if_pos h1, h2]
    · rw [if_neg (by omega), h2]
  rw [e]
  exact hQ past'
section KO
variable {n mo u : Nat} {C : Nat → Nat → Int32} {cells past h : Nat → Int32} {known size most draw changes seen : Int32}
theorem k_of {k j : Nat} {Q : Int32 → Prop} (hT : gTc n mo C cells size most) (hk : k < n) (hj : j < 6) (hQ : Q (C k j)) : p_X10_of size cells (nI k) (nI j) Q := by
  obtain ⟨hn, -, -, rfl, -, hc, -⟩ := hT
  unfold p_X10_of
  refine s_noC_in hk hn ⟨fun _ => s_oR_in hj (by decide) rfl ⟨fun _ => ?_, g00⟩, g00⟩
  unfold p_X9_cell
  refine ⟨gx_in _ (gx_6 k j) (by omega) (by decide), ?_⟩
  rw [gx_cl _ (gx_6 k j) (by omega), hc k hk j hj]
  exact hQ
theorem k_of_no {x y : Int32} {Q : Int32 → Prop} (hT : gTc n mo C cells size most) (hx : ¬ ∃ k, k < n ∧ x = nI k) (hQ : Q (-1000001)) : p_X10_of size cells x y Q := by
  obtain ⟨hn, -, -, rfl, -⟩ := hT
  unfold p_X10_of
  exact s_noC_out hx hn ⟨g10, fun _ => hQ⟩
theorem k_sum {k p : Nat} {Q : Int32 → Prop} (hT : gTc n mo C cells size most) (hk : k < n) (hp : p < 4096) (hQ : Q (gsum (C k) p)) : p_X10_sum size cells (nI k) (nI p) Q := by
  obtain ⟨hn, -, -, rfl, -, hc, -⟩ := hT
  unfold p_X10_sum
  refine s_noC_in hk hn ⟨fun _ => s_oR_in hp (by decide) rfl ⟨fun _ => s_X9_sumAt (by omega) hp ?_, g00⟩, g00⟩
  rw [gsum_cg (fun j hj => hc k hk j (by omega))]
  exact hQ
theorem k_hold {p : Nat} {Q : Int32 → Prop} (hT : gTc n mo C cells size most) (hp : p < 4096) (hQ : Q (nI (gmask C n p))) : p_X10_hold size cells (nI p) Q := by
  have e := hT.mask
  obtain ⟨hn, -, -, rfl, -⟩ := hT
  unfold p_X10_hold
  refine s_oR_in hp (by decide) rfl ⟨fun _ => s_X9_holdingAt hn hp ?_, g00⟩
  rw [e]
  exact hQ
theorem k_count0 {Q : Int32 → Int32 → (Nat → Int32) → Prop} (hQ : Q size seen h) : p_X10_count known size most changes cells seen h (0 : Int32) Q := by
  unfold p_X10_count
  exact ⟨fun _ => hQ, fun z => absurd rfl z⟩
theorem k_count1 {Q : Int32 → Int32 → (Nat → Int32) → Prop} (hQ : Q most seen h) : p_X10_count known size most changes cells seen h (1 : Int32) Q := by
  unfold p_X10_count
  exact ⟨fun z => absurd z (by decide), fun _ => ⟨fun _ => hQ, fun z => absurd rfl z⟩⟩
theorem k_count2 {Q : Int32 → Int32 → (Nat → Int32) → Prop} (hT : gTc n mo C cells size most) (hv : seen = changes → gVh (fun k j => cells (6 * k + j)) n mo h) (hQ : ∀ h', gVh (fun k j => cells (6 * k + j)) n mo h' → Q (nI (gcnt (gfull C n mo) 4096)) changes h') : p_X10_count known size most changes cells seen h (2 : Int32) Q := by
  have e := hT.full
  obtain ⟨hn, -, hm, rfl, rfl, -⟩ := hT
  unfold p_X10_count
  exact ⟨fun z => absurd z (by decide), fun _ => ⟨fun z => absurd z (by decide), fun _ => ⟨fun _ => s_X5_pointCount hn hm hv (fun h' hh => by rw [e]; exact hQ h' hh), fun z => absurd rfl z⟩⟩⟩
theorem k_count3 {Q : Int32 → Int32 → (Nat → Int32) → Prop} (hT : gTc n mo C cells size most) (hv : seen = changes → gVh (fun k j => cells (6 * k + j)) n mo h) (h1 : ∀ h' p, gVh (fun k j => cells (6 * k + j)) n mo h' → p < 4096 → gfull C n mo p = true → (∀ q, q < p → ¬ gfull C n mo q = true) → Q (nI p) changes h') (h2 : ∀ h', gVh (fun k j => cells (6 * k + j)) n mo h' → (∀ q, q < 4096 → ¬ gfull C n mo q = true) → Q (-1000004) changes h') : p_X10_count known size most changes cells seen h (3 : Int32) Q := by
  have e := hT.full
  obtain ⟨hn, -, hm, rfl, rfl, -⟩ := hT
  unfold p_X10_count
  refine ⟨fun z => absurd z (by decide), fun _ => ⟨fun z => absurd z (by decide), fun _ => ⟨fun z => absurd z (by decide), fun _ => ⟨fun _ => ?_, fun z => absurd rfl z⟩⟩⟩⟩
  refine s_X5_pointFrom (least := 0) hn hm (by decide) hv (fun h' p hh _ hp hf hl => ⟨fun _ => ?_, fun z => absurd (nI_pos' (by omega)) z⟩) (fun h' hh hl => ⟨fun z => absurd z (by decide), fun _ => ?_⟩)
  · rw [e] at hf hl
    exact h1 h' p hh hp hf (fun q hq => hl q (Nat.zero_le _) hq)
  · rw [e] at hl
    exact h2 h' hh (fun q hq => hl q (Nat.zero_le _) hq)
theorem k_count4 {Q : Int32 → Int32 → (Nat → Int32) → Prop} (hQ : Q known seen h) : p_X10_count known size most changes cells seen h (4 : Int32) Q := by
  unfold p_X10_count
  exact ⟨fun z => absurd z (by decide), fun _ => ⟨fun z => absurd z (by decide), fun _ => ⟨fun z => absurd z (by decide), fun _ => ⟨fun z => absurd z (by decide), fun _ => ⟨fun _ => hQ, fun z => absurd rfl z⟩⟩⟩⟩⟩
/-- without constraint k -/
def gdrp (C : Nat → Nat → Int32) (k : Nat) : Nat → Nat → Int32 := fun i => if i < k then C i else C (i + 1)
theorem gRC_drp {n k : Nat} {C : Nat → Nat → Int32} (h : gRC n C) (hk : k < n) : gRC (n - 1) (gdrp C k) := by
  intro i hi
  unfold gdrp
  by_cases e : i < k
  · rw [if_pos e]; exact h i (by omega)
  · rw [if_neg e]; exact h (i + 1) (by omega)
theorem k_drop {k : Nat} {Q : Int32 → Int32 → Int32 → Int32 → (Nat → Int32) → (Nat → Int32) → Prop} (hT : gTc n mo C cells size most) (hu : u ≤ 8) (hkn : known = nI u) (hk : k < n) (hQ : ∀ cells' past', gTc (n - 1) mo (gdrp C k) cells' (nI (n - 1)) most → Q (nI (n - 1)) (nI (gup u)) (nI (n - 1)) (changes + 1) cells' past') : p_X10_drop known size most draw changes cells past (nI k) Q := by
  obtain ⟨hn, hm1, hm, rfl, hmo, hc, hr⟩ := hT
  unfold p_X10_drop
  refine s_noC_in hk hn ⟨fun _ => k_keep hu hkn (fun past' => ?_), g00⟩
  unfold p_X9_remove
  have e1 : (nI k + (1 : Int32)) * (6 : Int32) = nI (6 * (k + 1)) := by rw [gl_1, nI_add, gx_6']
  have e2 : (48 : Int32) - nI (6 * (k + 1)) = nI (48 - 6 * (k + 1)) := by
    rw [show (48 : Int32) = nI 48 from rfl, pk_sub (by omega)]
  have e3 : nI n - (1 : Int32) = nI (n - 1) := by rw [gl_1, pk_sub (by omega)]
  rw [e1, e2, gx_6', e3, nI_clamp (by omega), nI_clamp (by omega), nI_clamp (by omega)]
  refine ⟨nI_pos (by omega), nI_pos (by omega), nI_pos (by omega), by omega, by omega, ?_⟩
  refine hQ _ _ ⟨by omega, hm1, hm, rfl, hmo, fun i hi j hj => ?_, gRC_drp hr hk⟩
  unfold gdrp
  by_cases e : i < k
  · rw [if_pos e, pk_cpy_out (by omega)]
    exact hc i (by omega) j hj
  · rw [if_neg e, pk_cpy_in (by omega) (by omega), ← hc (i + 1) (by omega) j hj]
    congr 1
    omega
theorem k_drop_no {x : Int32} {Q : Int32 → Int32 → Int32 → Int32 → (Nat → Int32) → (Nat → Int32) → Prop} (hT : gTc n mo C cells size most) (hx : ¬ ∃ k, k < n ∧ x = nI k) (hQ : Q (-1000001) known size changes cells past) : p_X10_drop known size most draw changes cells past x Q := by
  obtain ⟨hn, -, -, rfl, -⟩ := hT
  unfold p_X10_drop
  exact s_noC_out hx hn ⟨g10, fun _ => hQ⟩
/-- one number of constraint k is another -/
def gput (C : Nat → Nat → Int32) (k j : Nat) (v : Int32) : Nat → Nat → Int32 := fun i => if i = k then upd (C k) j v else C i
def gokv (j : Nat) (v : Int32) : Prop := (j < 4 → -9 ≤ v.toInt ∧ v.toInt ≤ 9) ∧ (j = 4 → -99 ≤ v.toInt ∧ v.toInt ≤ 99) ∧ (j = 5 → ∃ c, c ≤ 4 ∧ v = nI c)
theorem gRC_put {n k j : Nat} {v : Int32} {C : Nat → Nat → Int32} (h : gRC n C) (hv : gokv j v) : gRC n (gput C k j v) := by
  intro i hi
  unfold gput
  by_cases e : i = k
  · rw [if_pos e]
    subst e
    obtain ⟨a, b, c⟩ := h i hi
    refine ⟨fun l hl => ?_, ?_, ?_⟩
    · by_cases z : l = j
      · subst z; rw [pk_us]; exact hv.1 hl
      · rw [pk_un z]; exact a l hl
    · by_cases z : 4 = j
      · rw [← z, pk_us]; exact hv.2.1 z.symm
      · rw [pk_un z]; exact b
    · by_cases z : 5 = j
      · rw [← z, pk_us]; exact hv.2.2 z.symm
      · rw [pk_un z]; exact c
  · rw [if_neg e]; exact h i hi
theorem gTc_put {k j : Nat} {v : Int32} (hT : gTc n mo C cells size most) (hj : j < 6) (hv : gokv j v) : gTc n mo (gput C k j v) (upd cells (6 * k + j) v) size most := by
  obtain ⟨hn, h1, h2, h3, h4, hc, hr⟩ := hT
  refine ⟨hn, h1, h2, h3, h4, fun i hi l hl => ?_, gRC_put hr hv⟩
  unfold gput
  by_cases e : i = k
  · rw [if_pos e]
    subst e
    by_cases z : l = j
    · subst z; rw [pk_us, pk_us]
    · rw [pk_un (by omega), pk_un z]; exact hc i hi l hl
  · rw [if_neg e, pk_un (by omega)]; exact hc i hi l hl
theorem k_replace {k j : Nat} {v : Int32} {Q : Int32 → Int32 → Int32 → (Nat → Int32) → (Nat → Int32) → Prop} (hT : gTc n mo C cells size most) (hu : u ≤ 8) (hkn : known = nI u) (hk : k < n) (hj : j < 6) (hv : gokv j v) (h1 : C k j = v → Q (-1000002) known changes cells past) (h2 : ¬ C k j = v → ∀ cells' past', gTc n mo (gput C k j v) cells' size most → Q (C k j) (nI (gup u)) (changes + 1) cells' past') : p_X10_replace known size most draw changes cells past (nI k) (nI j) v Q := by
  have hn := hT.1
  have hc := hT.2.2.2.2.2.1 k hk j hj
  unfold p_X10_replace p_X9_cell p_X9_setCell
  refine ⟨gx_in _ (gx_6 k j) (by omega) (by decide), ?_⟩
  rw [gx_cl _ (gx_6 k j) (by omega), hc]
  exact ⟨h1, fun g => k_keep hu hkn (fun past' => ⟨gx_in _ (gx_6 k j) (by omega) (by decide), h2 g _ past' (gTc_put hT hj hv)⟩)⟩
theorem k_change {k j : Nat} {v : Int32} {Q : Int32 → Int32 → Int32 → (Nat → Int32) → (Nat → Int32) → Prop} (hT : gTc n mo C cells size most) (hu : u ≤ 8) (hkn : known = nI u) (hk : k < n) (hj : j < 5) (hv : gokv j v) (h1 : C k j = v → Q (-1000002) known changes cells past) (h2 : ¬ C k j = v → ∀ cells' past', gTc n mo (gput C k j v) cells' size most → Q (C k j) (nI (gup u)) (changes + 1) cells' past') : p_X10_change known size most draw changes cells past (nI k) (nI j) v Q := by
  have hn := hT.1
  have hs := hT.2.2.2.1
  unfold p_X10_change
  rw [hs]
  refine s_noC_in hk hn ⟨fun _ => s_oR_in hj (by decide) rfl ⟨fun _ => ?_, g00⟩, g00⟩
  rw [← hs]
  unfold p_X10_change_32
  refine ⟨fun g => ?_, fun g => ?_⟩
  · rw [gl_4, nI_eq (by omega) (by decide)] at g
    exact s_out_in (hv.2.1 g) ⟨fun _ => k_replace hT hu hkn hk (by omega) hv h1 h2, g00⟩
  · rw [gl_4, nI_eq (by omega) (by decide)] at g
    exact s_out_in (hv.1 (by omega)) ⟨fun _ => k_replace hT hu hkn hk (by omega) hv h1 h2, g00⟩
theorem k_change_no {x y v : Int32} {Q : Int32 → Int32 → Int32 → (Nat → Int32) → (Nat → Int32) → Prop} (hT : gTc n mo C cells size most) (hx : ¬ ∃ k, k < n ∧ x = nI k) (hQ : Q (-1000001) known changes cells past) : p_X10_change known size most draw changes cells past x y v Q := by
  obtain ⟨hn, -, -, rfl, -⟩ := hT
  unfold p_X10_change
  exact s_noC_out hx hn ⟨g10, fun _ => hQ⟩
theorem k_shape {k c : Nat} {Q : Int32 → Int32 → Int32 → (Nat → Int32) → (Nat → Int32) → Prop} (hT : gTc n mo C cells size most) (hu : u ≤ 8) (hkn : known = nI u) (hk : k < n) (hc : c < 5) (h1 : C k 5 = nI c → Q (-1000002) known changes cells past) (h2 : ¬ C k 5 = nI c → ∀ cells' past', gTc n mo (gput C k 5 (nI c)) cells' size most → Q (C k 5) (nI (gup u)) (changes + 1) cells' past') : p_X10_shape known size most draw changes cells past (nI k) (nI c) Q := by
  have hn := hT.1
  have hs := hT.2.2.2.1
  unfold p_X10_shape
  rw [hs]
  refine s_noC_in hk hn ⟨fun _ => s_oR_in hc (by decide) rfl ⟨fun _ => ?_, g00⟩, g00⟩
  rw [← hs]
  exact k_replace (j := 5) hT hu hkn hk (by decide) ⟨fun z => absurd z (by decide), fun z => absurd z (by decide), fun _ => ⟨c, by omega, rfl⟩⟩ h1 h2
theorem k_shape_no {x y : Int32} {Q : Int32 → Int32 → Int32 → (Nat → Int32) → (Nat → Int32) → Prop} (hT : gTc n mo C cells size most) (hx : ¬ ∃ k, k < n ∧ x = nI k) (hQ : Q (-1000001) known changes cells past) : p_X10_shape known size most draw changes cells past x y Q := by
  obtain ⟨hn, -, -, rfl, -⟩ := hT
  unfold p_X10_shape
  exact s_noC_out hx hn ⟨g10, fun _ => hQ⟩
/-- constraint k turned -/
def gng (C : Nat → Nat → Int32) (k : Nat) : Nat → Nat → Int32 := fun i => if i = k then (fun j => if j < 5 then -(C k j) else C k j) else C i
theorem gRC_ng {n k : Nat} {C : Nat → Nat → Int32} (h : gRC n C) : gRC n (gng C k) := by
  intro i hi
  unfold gng
  by_cases e : i = k
  · rw [if_pos e]
    subst e
    obtain ⟨a, b, c⟩ := h i hi
    refine ⟨fun j hj => ?_, ?_, ?_⟩
    · rw [if_pos (by omega)]; exact gm_neg (b := 9) (by decide) (a j hj)
    · rw [if_pos (by decide)]; exact gm_neg (b := 99) (by decide) b
    · rw [if_neg (by decide)]; exact c
  · rw [if_neg e]; exact h i hi
theorem k_turn {k : Nat} {Q : Int32 → Int32 → Int32 → (Nat → Int32) → (Nat → Int32) → Int32 → (Nat → Int32) → Prop} (hT : gTc n mo C cells size most) (hu : u ≤ 8) (hkn : known = nI u) (hk : k < n) (hne : ¬ seen = changes + nI 5) (hQ : ∀ cells' past' h', gTc n mo (gng C k) cells' size most → gVh (fun k j => cells' (6 * k + j)) n mo h' → Q (nI (gcnt (gfull (gng C k) n mo) 4096)) (nI (gup u)) (changes + nI 5) cells' past' (changes + nI 5) h') : p_X10_turn known size most draw changes cells past seen h (nI k) Q := by
  obtain ⟨hn, hm1, hm, rfl, rfl, hc, hr⟩ := hT
  unfold p_X10_turn
  refine s_noC_in hk hn ⟨fun _ => k_keep hu hkn (fun past' => s_X9_negate (by omega) (fun c' c1 c2 => ?_)), g00⟩
  have hT' : gTc n mo (gng C k) c' (nI n) (nI mo) := by
    refine ⟨hn, hm1, hm, rfl, rfl, fun i hi j hj => ?_, gRC_ng hr⟩
    unfold gng
    by_cases e : i = k
    · rw [if_pos e]
      subst e
      by_cases z : j < 5
      · rw [if_pos z, c1 j z, hc i hi j hj]
      · rw [if_neg z, c2 _ (by omega)]; exact hc i hi j hj
    · rw [if_neg e, c2 _ (by omega)]; exact hc i hi j hj
  refine s_X5_pointCount hn hm (fun z => absurd z hne) (fun h' hh => ?_)
  rw [hT'.full]
  exact hQ _ _ _ hT' hh
theorem k_turn_no {x : Int32} {Q : Int32 → Int32 → Int32 → (Nat → Int32) → (Nat → Int32) → Int32 → (Nat → Int32) → Prop} (hT : gTc n mo C cells size most) (hx : ¬ ∃ k, k < n ∧ x = nI k) (hQ : Q (-1000001) known changes cells past seen h) : p_X10_turn known size most draw changes cells past seen h x Q := by
  obtain ⟨hn, -, -, rfl, -⟩ := hT
  unfold p_X10_turn
  exact s_noC_out hx hn ⟨g10, fun _ => hQ⟩
theorem k_call {m : Nat} {Q : Int32 → Int32 → Int32 → Int32 → (Nat → Int32) → Prop} (hT : gTc n mo C cells size most) (hu : u ≤ 8) (hkn : known = nI u) (h1 : 1 ≤ m) (h7 : m ≤ 7) (hq1 : mo = m → Q (-1000002) known most changes past) (hq2 : ¬ mo = m → ∀ past', gTc n m C cells size (nI m) → Q (nI mo) (nI (gup u)) (nI m) (changes + 1) past') : p_X10_call known size most draw changes cells past (nI m) Q := by
  obtain ⟨hn, hm1, hm, hs, rfl, hc, hr⟩ := hT
  unfold p_X10_call
  refine s_out_in (by rw [nI_toInt (by omega)]; exact ⟨by have : (1 : Int32).toInt = 1 := rfl; omega, by have : (7 : Int32).toInt = 7 := rfl; omega⟩) ⟨fun _ => ⟨fun g => ?_, fun g => k_keep hu hkn (fun past' => ?_)⟩, g00⟩
  · rw [nI_eq (by omega) (by omega)] at g
    exact hq1 g
  · unfold p_X9_setMost
    rw [nI_eq (by omega) (by omega)] at g
    exact hq2 g past' ⟨hn, h1, h7, hs, rfl, hc, hr⟩
/-- one more constraint -/
def gadd (C : Nat → Nat → Int32) (n : Nat) (x : Nat → Int32) : Nat → Nat → Int32 := fun i => if i = n then x else C i
theorem k_add {f kd : Nat} {rest : Int32} {x : Nat → Int32} {Q : Int32 → Int32 → Int32 → Int32 → (Nat → Int32) → (Nat → Int32) → Prop} (hT : gTc n mo C cells size most) (hu : u ≤ 8) (hkn : known = nI u) (hn8 : n < 8) (hf : f < 160000) (hd : ∀ v, v < 4 → gdig f v ≤ 18) (hkd : kd < 5) (hr99 : -99 ≤ rest.toInt ∧ rest.toInt ≤ 99) (hx : ∀ v, v < 4 → x v = nI (gdig f (3 - v)) - 9) (hx4 : x 4 = rest) (hx5 : x 5 = nI kd) (hQ : ∀ cells' past', gTc (n + 1) mo (gadd C n x) cells' (nI (n + 1)) most → Q (nI n) (nI (gup u)) (nI (n + 1)) (changes + nI 6) cells' past') : p_X10_add known size most draw changes cells past (nI kd) (nI f) rest Q := by
  obtain ⟨hn, hm1, hm, rfl, hmo, hc, hr⟩ := hT
  unfold p_X10_add
  refine s_oR_in hkd (by decide) rfl ⟨fun _ => s_out_in hr99 ⟨fun _ => s_aF_loop hf (fun _ => ⟨g10, fun _ => ⟨fun _ => ?_, fun g => absurd (by rw [gl_8, nI_ltI (by omega) (by decide)]; exact hn8) g⟩⟩) (fun z => absurd hd z), g00⟩, g00⟩
  refine k_keep hu hkn (fun past' => s_X9_append hn8 hf (fun c' c1 c2 c3 c4 => ?_))
  have e : nI (n + 1) - (1 : Int32) = nI n := nI_pred n
  rw [e]
  refine hQ _ _ ⟨by omega, hm1, hm, rfl, hmo, fun i hi j hj => ?_, fun i hi => ?_⟩
  · unfold gadd
    by_cases e : i = n
    · rw [if_pos e]
      subst e
      rcases (show j < 4 ∨ j = 4 ∨ j = 5 by omega) with z | z | z
      · rw [c2 j z, hx j z]
      · rw [z, c3, hx4]
      · rw [z, c4, hx5]
    · rw [if_neg e, c1 _ (by omega)]; exact hc i (by omega) j hj
  · unfold gadd
    by_cases e : i = n
    · rw [if_pos e]
      refine ⟨fun j hj => ?_, by rw [hx4]; exact hr99, kd, by omega, hx5⟩
      rw [hx j hj]
      exact gdig_val (hd _ (by omega))
    · rw [if_neg e]; exact hr i (by omega)
theorem k_add_full {f kd : Nat} {rest : Int32} {Q : Int32 → Int32 → Int32 → Int32 → (Nat → Int32) → (Nat → Int32) → Prop} (hT : gTc n mo C cells size most) (hn8 : n = 8) (hf : f < 160000) (hd : ∀ v, v < 4 → gdig f v ≤ 18) (hkd : kd < 5) (hr99 : -99 ≤ rest.toInt ∧ rest.toInt ≤ 99) (hQ : Q (-1000003) known size changes cells past) : p_X10_add known size most draw changes cells past (nI kd) (nI f) rest Q := by
  obtain ⟨hn, hm1, hm, rfl, hmo, hc, hr⟩ := hT
  unfold p_X10_add
  exact s_oR_in hkd (by decide) rfl ⟨fun _ => s_out_in hr99 ⟨fun _ => s_aF_loop hf (fun _ => ⟨g10, fun _ => ⟨fun g => absurd g (by rw [gl_8, nI_ltI (by omega) (by decide)]; omega), fun _ => hQ⟩⟩) (fun z => absurd hd z), g00⟩, g00⟩
theorem k_seed {x : Int32} {Q : Int32 → Int32 → Prop} (hx : 0 ≤ x) (hQ : Q draw x) : p_X10_seed draw x Q := by
  unfold p_X10_seed
  exact ⟨fun _ => hQ, fun z => absurd hx z⟩
theorem k_undo {Q : Int32 → Int32 → Int32 → Int32 → Int32 → Int32 → (Nat → Int32) → Prop} (hu : u < 8) (hkn : known = nI (u + 1)) (hQ : ∀ s' m' d' c', Q (nI u) (nI u) s' m' d' (changes + 1) c') : p_X10_undo known size most draw changes cells past Q := by
  subst hkn
  have e : nI (u + 1) - (1 : Int32) = nI u := nI_pred u
  have e0 : nI u * (51 : Int32) + (48 : Int32) = nI (51 * u + 48) := by rw [gx_51]; exact nI_add _ 48
  have e1 : nI u * (51 : Int32) + (48 : Int32) + (1 : Int32) = nI (51 * u + 49) := by rw [e0]; exact nI_add _ 1
  have e2 : nI u * (51 : Int32) + (48 : Int32) + (2 : Int32) = nI (51 * u + 50) := by rw [e0]; exact nI_add _ 2
  unfold p_X10_undo p_X0_goBack p_X9_loadFrom
  refine ⟨fun g => absurd g (nI_ne0 (by omega) (by omega)), fun _ => ?_⟩
  rw [e]
  refine ⟨by rw [gx_51]; exact nI_pos (by omega), by decide, by decide, ?_, by decide, gx_in _ e0 (by omega) (by decide), gx_in _ e1 (by omega) (by decide), gx_in _ e2 (by omega) (by decide), hQ _ _ _ _⟩
  rw [gx_51, nI_clamp (by omega), gcl_48]
  omega
theorem k_undo0 {Q : Int32 → Int32 → Int32 → Int32 → Int32 → Int32 → (Nat → Int32) → Prop} (hkn : known = nI 0) (hQ : Q (-1000004) known size most draw changes cells) : p_X10_undo known size most draw changes cells past Q := by
  unfold p_X10_undo
  exact ⟨fun _ => hQ, fun z => absurd hkn z⟩
theorem k_image {has kk ks km kd kch : Int32} {kc kp : Nat → Int32} {Q : Int32 → Int32 → Int32 → Int32 → Int32 → Int32 → Int32 → (Nat → Int32) → (Nat → Int32) → Prop} (hT : gTc n mo C cells size most) (hQ : ∀ c' p', gTc n mo C c' size most → Q 1 1 known size most draw (kch + 1) c' p') : p_X10_image has known size most draw cells past kk ks km kd kch kc kp Q := by
  unfold p_X10_image
  exact s_X0_take (fun c2 p2 h1 _ => hQ c2 p2 (hT.cg h1))
theorem k_restore {has kk ks km kd : Int32} {kc kp : Nat → Int32} {s0 m0 : Int32} {Q : Int32 → Int32 → Int32 → Int32 → Int32 → Int32 → (Nat → Int32) → (Nat → Int32) → Prop} (hh : has = 1) (hT : gTc n mo C kc ks km) (hQ : ∀ c' p', gTc n mo C c' ks km → Q 1 kk ks km kd (changes + 1) c' p') : p_X10_restore has known s0 m0 draw changes cells past kk ks km kd kc kp Q := by
  subst hh
  unfold p_X10_restore
  exact ⟨g10, fun _ => s_X0_take (fun c2 p2 h1 _ => hQ c2 p2 (hT.cg h1))⟩
end KO
