/-! acts: both alike -/
theorem gx_sh {a k : Nat} (ha : a < 2 ^ 31) (hk : k < 32) : nI a >>> (nI k &&& 31) = nI (a / 2 ^ k) := pk_shrN ha _ k (gm_sl k hk)
theorem gx_sh3 {a : Nat} (ha : a < 2 ^ 31) : nI a >>> ((3 : Int32) &&& 31) = nI (a / 8) := pk_shrN ha _ 3 (by decide)
theorem gx_sh2 {a : Nat} (ha : a < 2 ^ 31) : nI a >>> ((2 : Int32) &&& 31) = nI (a / 4) := pk_shrN ha _ 2 (by decide)
theorem gx_sh5 {a : Nat} (ha : a < 2 ^ 31) : nI a >>> ((5 : Int32) &&& 31) = nI (a / 32) := pk_shrN ha _ 5 (by decide)
theorem gx_a7 {a : Nat} (ha : a < 2 ^ 31) : nI a &&& (7 : Int32) = nI (a % 8) := pk_andN (by omega) 3 (by decide)
theorem gx_a31 {a : Nat} (ha : a < 2 ^ 31) : nI a &&& (31 : Int32) = nI (a % 32) := pk_andN (by omega) 5 (by decide)
theorem gx_a15 {a : Nat} (ha : a < 2 ^ 31) : nI a &&& (15 : Int32) = nI (a % 16) := pk_andN (by omega) 4 (by decide)
theorem gx_a3 {a : Nat} (ha : a < 2 ^ 31) : nI a &&& (3 : Int32) = nI (a % 4) := pk_andN (by omega) 2 (by decide)
theorem gx_63 (n j : Nat) : nI (3 + 6 * n) + nI j = nI (3 + 6 * n + j) := nI_add _ _
/-- w, a number of constraint k another one -/
theorem gLw_put {n mo k j : Nat} {C : Nat → Nat → Int32} {w : Nat → Int32} {v : Int32} (hw : gLw n mo C w) (hj : j < 6) : gLw n mo (gput C k j v) (upd w (3 + 6 * k + j) v) := by
  obtain ⟨h0, h1, hc⟩ := hw
  refine ⟨by rw [pk_un (by omega)]; exact h0, by rw [pk_un (by omega)]; exact h1, fun i hi l hl => ?_⟩
  unfold gput
  by_cases e : i = k
  · rw [if_pos e]
    subst e
    by_cases z : l = j
    · subst z; rw [pk_us, pk_us]
    · rw [pk_un (by omega), pk_un z]; exact hc i hi l hl
  · rw [if_neg e, pk_un (by omega)]; exact hc i hi l hl
section KA
variable {c n mo u : Nat} {C : Nat → Nat → Int32} {cells past h w : Nat → Int32} {known size most draw changes seen : Int32} {Q : Int32 → Int32 → Int32 → Int32 → Int32 → (Nat → Int32) → (Nat → Int32) → Int32 → (Nat → Int32) → (Nat → Int32) → Prop}
def gAct (c : Nat) (Q : Int32 → Int32 → Int32 → Int32 → Int32 → (Nat → Int32) → (Nat → Int32) → Int32 → (Nat → Int32) → (Nat → Int32) → Prop) : Prop := ∀ r v c' n' mo' C' known' size' most' changes' cells' past' seen' h' w', (r = 0 ∨ r = 1) → v ≤ 8 → known' = nI v → c' ≤ c + 8 → gTc n' mo' C' cells' size' most' → gZ c' n' mo' cells' changes' seen' h' → gLw n' mo' C' w' → Q r known' size' most' changes' cells' past' seen' h' w'
theorem no_ge {n k : Nat} (hk8 : k < 8) (hn : n ≤ 8) (h : n ≤ k) : ¬ ∃ i, i < n ∧ nI k = nI i := by
  rintro ⟨i, hi, e⟩
  rw [nI_eq (by omega) (by omega)] at e
  omega
/-- drop -/
theorem lx_act1 {k : Nat} {s0 x2 : Int32} (hT : gTc n mo C cells size most) (hw : gLw n mo C w) (hu : u ≤ 8) (hkn : known = nI u) (hz : gZ c n mo cells changes seen h) (hc : c + 100 < 2 ^ 31) (hk8 : k < 8) (hs : (s0 = 1 ∧ k < n) ∨ (s0 = 0 ∧ n ≤ k)) (hQ : gAct c Q) : (s0 = 0 → (p_X10_drop known size most draw changes cells past (nI k) (fun r45 y46 y47 y48 y49 y50 => (r45 = (-1000001 : Int32) → (Q (0 : Int32) y46 y47 most y48 y49 y50 seen h w)) ∧ (¬ r45 = (-1000001 : Int32) → (Q (-1 : Int32) y46 y47 most y48 y49 y50 seen h w))))) ∧ (¬ s0 = 0 → (vp_in (0 : Int32) 51 ∧ (vp_in (0 : Int32) 51 ∧ (∃ n, gi2 (p_L_acts_281 known size most draw changes cells past seen h (nI k) Q) n ((3 : Int32) + ((6 : Int32) * nI k)) (upd w (0 : Int32).toNatClampNeg ((w (0 : Int32).toNatClampNeg) - (1 : Int32))))))) := by
  have hn := hT.1
  rcases hs with ⟨rfl, hk⟩ | ⟨rfl, hk⟩
  · refine ⟨g10, fun _ => ⟨gx_in 0 rfl (by decide) (by decide), gx_in 0 rfl (by decide) (by decide), ?_⟩⟩
    rw [gx_m6, gcl_0, hw.1, gz_n1 (by omega)]
    refine gi2_ix (fun i a b => ∃ t, i + t = 6 * (n - 1 - k) ∧ a = nI (3 + 6 * k + t) ∧ b 0 = nI (n - 1) ∧ b 1 = nI mo ∧ (∀ q, 3 + 6 * k ≤ q → q < 3 + 6 * k + t → b q = w (q + 6)) ∧ ∀ q, 2 ≤ q → (q < 3 + 6 * k ∨ 3 + 6 * k + t ≤ q) → b q = w q) ?_ (6 * (n - 1 - k)) ⟨0, rfl, rfl, pk_us, by rw [pk_un (by decide)]; exact hw.2.1, fun q z1 z2 => by omega, fun q z1 _ => pk_un (by omega)⟩
    rintro i X a b ⟨t, hi, rfl, b0, b1, b2, b3⟩ hX
    unfold p_L_acts_281
    refine ⟨gx_in 0 rfl (by decide) (by decide), ?_⟩
    rw [gcl_0, b0, gx_m6]
    refine ⟨fun y => ?_, fun y => ?_⟩
    · rw [nI_leI (by omega) (by omega)] at y
      refine k_drop hT hu hkn hk (fun ce1 pa1 hT1 => ⟨gx_in 0 rfl (by decide) (by decide), ?_⟩)
      refine ⟨fun _ => hQ 1 (gup u) (c + 1) (n - 1) mo (gdrp C k) _ _ _ _ _ _ _ _ _ (Or.inr rfl) (gup_le hu) rfl (by omega) hT1 (hz.up1 (by omega)) ⟨b0, b1, fun i hi j hj => ?_⟩, fun y => absurd rfl y⟩
      unfold gdrp
      by_cases e : i < k
      · rw [if_pos e, b3 _ (by omega) (by omega)]
        exact hw.2.2 i (by omega) j hj
      · rw [if_neg e, b2 _ (by omega) (by omega), ← hw.2.2 (i + 1) (by omega) j hj]
        congr 1
        omega
    · rw [nI_leI (by omega) (by omega)] at y
      have e6 : nI (3 + 6 * k + t) + (6 : Int32) = nI (3 + 6 * k + t + 6) := nI_add _ 6
      rw [e6, nI_clamp (by omega), nI_clamp (by omega)]
      refine ⟨vp_in_nI (by omega) (by decide), vp_in_nI (by omega) (by decide), hX (i - 1) _ _ (by omega) ⟨t + 1, by omega, by rw [gl_1, nI_add]; rfl, by rw [pk_un (by omega)]; exact b0, by rw [pk_un (by omega)]; exact b1, fun q z1 z2 => ?_, fun q z1 z2 => by rw [pk_un (by omega)]; exact b3 q z1 (by omega)⟩⟩
      by_cases e : q = 3 + 6 * k + t
      · subst e
        rw [pk_us]
        exact b3 _ (by omega) (by omega)
      · rw [pk_un e]; exact b2 q z1 (by omega)
  · refine ⟨fun _ => k_drop_no hT (no_ge hk8 hn hk) ⟨fun _ => hQ 0 u c n mo C _ _ _ _ _ _ _ _ _ (Or.inl rfl) hu hkn (by omega) hT hz hw, fun y => absurd rfl y⟩, g00⟩
/-- change -/
theorem lx_act2 {k y : Nat} {s0 : Int32} (hT : gTc n mo C cells size most) (hw : gLw n mo C w) (hu : u ≤ 8) (hkn : known = nI u) (hz : gZ c n mo cells changes seen h) (hc : c + 100 < 2 ^ 31) (hk8 : k < 8) (hy : y < 512) (hs : (s0 = 1 ∧ k < n) ∨ (s0 = 0 ∧ n ≤ k)) (hQ : gAct c Q) : p_L_acts_329 known size most draw changes cells past seen h w (nI y) (nI k) s0 Q := by
  have hn := hT.1
  have y1 : y / 8 % 8 < 8 := Nat.mod_lt _ (by decide)
  have jt : y / 8 % 8 % 5 < 5 := Nat.mod_lt _ (by decide)
  -- with what, and to what
  have go : ∀ (j : Nat) (v : Int32), j < 5 → gokv j v → p_L_acts_368 known size most draw changes cells past seen h w (nI k) s0 (nI j) v Q := by
    intro j v hj hv
    have ix : (3 : Int32) + (6 : Int32) * nI k + nI j = nI (3 + 6 * k + j) := gx_m6j k j
    unfold p_L_acts_368
    rcases hs with ⟨rfl, hk⟩ | ⟨rfl, hk⟩
    · refine ⟨g10, fun _ => ⟨by rw [ix]; exact vp_in_nI (by omega) (by decide), ?_⟩⟩
      rw [ix, nI_clamp (by omega), hw.2.2 k hk j (by omega)]
      unfold p_L_acts_391
      refine ⟨g10, fun _ => ⟨fun e => ?_, fun e => ⟨by rw [ix]; exact vp_in_nI (by omega) (by decide), ?_⟩⟩⟩
      · unfold p_L_acts_405
        refine k_change hT hu hkn hk hj hv (fun _ => ⟨g10, fun _ => ?_⟩) (fun z => absurd e z)
        unfold p_L_acts_427
        exact ⟨fun _ => hQ 0 u c n mo C _ _ _ _ _ _ _ _ _ (Or.inl rfl) hu hkn (by omega) hT hz hw, fun z => absurd rfl z⟩
      · rw [ix, nI_clamp (by omega)]
        refine k_change hT hu hkn hk hj hv (fun z => absurd z e) (fun _ ce1 pa1 hT1 => ⟨fun _ => ?_, fun z => absurd rfl z⟩)
        exact hQ 1 (gup u) (c + 1) n mo (gput C k j v) _ _ _ _ _ _ _ _ _ (Or.inr rfl) (gup_le hu) rfl (by omega) hT1 (hz.up1 (by omega)) (gLw_put hw (by omega))
    · refine ⟨fun _ => ?_, g00⟩
      unfold p_L_acts_391
      refine ⟨fun _ => ?_, g00⟩
      unfold p_L_acts_405
      refine k_change_no hT (no_ge hk8 hn hk) ⟨fun _ => ?_, g00⟩
      unfold p_L_acts_427
      exact ⟨fun _ => hQ 0 u c n mo C _ _ _ _ _ _ _ _ _ (Or.inl rfl) hu hkn (by omega) hT hz hw, fun z => absurd rfl z⟩
  unfold p_L_acts_329
  intro z hz2
  rw [gx_sh3 (by omega), gx_a7 (by omega), gx_5r _ (by omega)] at hz2
  subst hz2
  rw [gx_sh5 (by omega), gx_a15 (by omega)]
  have m16 : y / 32 % 16 < 16 := Nat.mod_lt _ (by decide)
  refine ⟨fun e => ?_, fun e => ?_⟩
  · rw [gl_4, nI_eq (by omega) (by decide)] at e
    refine go _ _ jt ⟨fun z => by omega, fun _ => ?_, fun z => by omega⟩
    have e1 : (nI (y / 32 % 16) * (3 : Int32) - (20 : Int32)).toInt = ((y / 32 % 16 * 3 : Nat) : Int) - 20 := by
      rw [gl_3, pk_mul]
      exact pk_sub_toInt (b := 20) (by omega) (by decide)
    omega
  · rw [gl_4, nI_eq (by omega) (by decide)] at e
    refine go _ _ jt ⟨fun _ => ?_, fun z => absurd z e, fun z => by omega⟩
    have e1 : (nI (y / 32 % 16) - (7 : Int32)).toInt = ((y / 32 % 16 : Nat) : Int) - 7 := pk_sub_toInt (b := 7) (by omega) (by decide)
    omega
/-- shape -/
theorem lx_act5 {k kd : Nat} {s0 x9 : Int32} (hT : gTc n mo C cells size most) (hw : gLw n mo C w) (hu : u ≤ 8) (hkn : known = nI u) (hz : gZ c n mo cells changes seen h) (hc : c + 100 < 2 ^ 31) (hk8 : k < 8) (hkd : kd < 5) (hs : (s0 = 1 ∧ k < n ∧ x9 = C k 5) ∨ (s0 = 0 ∧ n ≤ k)) (hQ : gAct c Q) : p_L_acts_500 known size most draw changes cells past seen h w (nI k) s0 (nI kd) x9 Q := by
  have hn := hT.1
  unfold p_L_acts_500
  rcases hs with ⟨rfl, hk, rfl⟩ | ⟨rfl, hk⟩
  · refine ⟨g10, fun _ => ⟨fun e => ?_, fun e => ⟨by rw [gx_w8]; exact vp_in_nI (by omega) (by decide), ?_⟩⟩⟩
    · unfold p_L_acts_514
      refine k_shape hT hu hkn hk hkd (fun _ => ⟨g10, fun _ => ?_⟩) (fun z => absurd e z)
      unfold p_L_acts_534
      exact ⟨fun _ => hQ 0 u c n mo C _ _ _ _ _ _ _ _ _ (Or.inl rfl) hu hkn (by omega) hT hz hw, fun z => absurd rfl z⟩
    · rw [gx_w8, nI_clamp (by omega)]
      refine k_shape hT hu hkn hk hkd (fun z => absurd z e) (fun _ ce1 pa1 hT1 => ⟨fun _ => ?_, fun z => absurd rfl z⟩)
      exact hQ 1 (gup u) (c + 1) n mo (gput C k 5 (nI kd)) _ _ _ _ _ _ _ _ _ (Or.inr rfl) (gup_le hu) rfl (by omega) hT1 (hz.up1 (by omega)) (gLw_put hw (by decide))
  · refine ⟨fun _ => ?_, g00⟩
    unfold p_L_acts_514
    refine k_shape_no hT (no_ge hk8 hn hk) ⟨fun _ => ?_, g00⟩
    unfold p_L_acts_534
    exact ⟨fun _ => hQ 0 u c n mo C _ _ _ _ _ _ _ _ _ (Or.inl rfl) hu hkn (by omega) hT hz hw, fun z => absurd rfl z⟩
/-- turn -/
theorem lx_act6 {k : Nat} {s0 : Int32} (hT : gTc n mo C cells size most) (hw : gLw n mo C w) (hu : u ≤ 8) (hkn : known = nI u) (hz : gZ c n mo cells changes seen h) (hc : c + 100 < 2 ^ 31) (hk8 : k < 8) (hs : (s0 = 1 ∧ k < n) ∨ (s0 = 0 ∧ n ≤ k)) (hQ : gAct c Q) : (s0 = 0 → (p_X10_turn known size most draw changes cells past seen h (nI k) (fun r105 y106 y107 y108 y109 y110 y111 => (r105 = (-1000001 : Int32) → (Q (0 : Int32) y106 size most y107 y108 y109 y110 y111 w)) ∧ (¬ r105 = (-1000001 : Int32) → (Q (-1 : Int32) y106 size most y107 y108 y109 y110 y111 w))))) ∧ (¬ s0 = 0 → (∃ n, gi2 (p_L_acts_599 known size most draw changes cells past seen h (nI k) Q) n (0 : Int32) w)) := by
  have hn := hT.1
  have hmo7 := hT.2.2.1
  rcases hs with ⟨rfl, hk⟩ | ⟨rfl, hk⟩
  · refine ⟨g10, fun _ => ?_⟩
    refine gi2_ix (fun i a b => ∃ t, i + t = 5 ∧ a = nI t ∧ (∀ j, j < t → b (3 + 6 * k + j) = -(w (3 + 6 * k + j))) ∧ ∀ q, ¬ (3 + 6 * k ≤ q ∧ q < 3 + 6 * k + t) → b q = w q) ?_ 5 ⟨0, rfl, rfl, fun j hj => absurd hj (Nat.not_lt_zero j), fun _ _ => rfl⟩
    rintro i X a b ⟨t, hi, rfl, b1, b2⟩ hX
    unfold p_L_acts_599
    refine ⟨fun y => ?_, fun y => ?_⟩
    · rw [gl_5, nI_leI (by decide) (by omega)] at y
      have t5 : t = 5 := by omega
      subst t5
      have hw1 : gLw n mo (gng C k) b := by
        refine ⟨by rw [b2 _ (by omega)]; exact hw.1, by rw [b2 _ (by omega)]; exact hw.2.1, fun i hi j hj => ?_⟩
        unfold gng
        by_cases e : i = k
        · rw [if_pos e]
          subst e
          by_cases z : j < 5
          · rw [if_pos z, b1 j z, hw.2.2 i hi j hj]
          · rw [if_neg z, b2 _ (by omega)]; exact hw.2.2 i hi j hj
        · rw [if_neg e, b2 _ (by omega)]; exact hw.2.2 i hi j hj
      refine k_turn hT hu hkn hk (hz.ne (by decide) (by omega)) (fun ce1 pa1 ho1 hT1 hv1 => lx_all hw1 hn (lx_points hw1 hn hmo7 ⟨fun _ => ?_, fun y => absurd rfl y⟩))
      exact hQ 1 (gup u) (c + 5) n mo (gng C k) _ _ _ _ _ _ _ _ _ (Or.inr rfl) (gup_le hu) rfl (by omega) hT1 (hz.new (e := 5) hv1) hw1
    · rw [gl_5, nI_leI (by decide) (by omega)] at y
      rw [gx_m6j, nI_clamp (by omega)]
      refine ⟨vp_in_nI (by omega) (by decide), vp_in_nI (by omega) (by decide), hX (i - 1) _ _ (by omega) ⟨t + 1, by omega, by rw [gl_1, nI_add], fun j hj => ?_, fun q hq => by rw [pk_un (by omega)]; exact b2 q (by omega)⟩⟩
      by_cases e : j = t
      · subst e
        rw [pk_us, b2 _ (by omega), Int32.zero_sub]
      · rw [pk_un (by omega)]; exact b1 j (by omega)
  · exact ⟨fun _ => k_turn_no hT (no_ge hk8 hn hk) ⟨fun _ => hQ 0 u c n mo C _ _ _ _ _ _ _ _ _ (Or.inl rfl) hu hkn (by omega) hT hz hw, fun y => absurd rfl y⟩, g00⟩
/-- add -/
theorem gm_d9 : ∀ d, d < 8 → nI (d + 6) - (9 : Int32) = nI d - (3 : Int32) := by decide
def gfac (y : Nat) : Nat → Nat
  | 0 => 0
  | v + 1 => 20 * gfac y v + (y / 2 ^ v % 8) + 6
theorem gfac_4 (y : Nat) : gfac y 4 < 160000 ∧ gdig (gfac y 4) 3 = y / 2 ^ 0 % 8 + 6 ∧ gdig (gfac y 4) 2 = y / 2 ^ 1 % 8 + 6 ∧ gdig (gfac y 4) 1 = y / 2 ^ 2 % 8 + 6 ∧ gdig (gfac y 4) 0 = y / 2 ^ 3 % 8 + 6 := by
  have h0 : y / 2 ^ 0 % 8 < 8 := Nat.mod_lt _ (by decide)
  have h1 : y / 2 ^ 1 % 8 < 8 := Nat.mod_lt _ (by decide)
  have h2 : y / 2 ^ 2 % 8 < 8 := Nat.mod_lt _ (by decide)
  have h3 : y / 2 ^ 3 % 8 < 8 := Nat.mod_lt _ (by decide)
  have e : gfac y 4 = 20 * (20 * (20 * (20 * 0 + (y / 2 ^ 0 % 8) + 6) + (y / 2 ^ 1 % 8) + 6) + (y / 2 ^ 2 % 8) + 6) + (y / 2 ^ 3 % 8) + 6 := rfl
  revert h0 h1 h2 h3 e
  generalize y / 2 ^ 0 % 8 = d0
  generalize y / 2 ^ 1 % 8 = d1
  generalize y / 2 ^ 2 % 8 = d2
  generalize y / 2 ^ 3 % 8 = d3
  intro h0 h1 h2 h3 e
  rw [e]
  unfold gdig
  simp only [Nat.reducePow, Nat.pow_zero, Nat.div_one]
  omega
theorem lx_act0 {y : Nat} (hT : gTc n mo C cells size most) (hw : gLw n mo C w) (hu : u ≤ 8) (hkn : known = nI u) (hz : gZ c n mo cells changes seen h) (hc : c + 100 < 2 ^ 31) (hy : y < 512) (hQ : gAct c Q) : ∃ n, gi2 (p_L_acts_78 known size most draw changes cells past seen h w (nI y) Q) n (0 : Int32) (0 : Int32) := by
  have hn := hT.1
  obtain ⟨f1, f3, f2, f1', f0⟩ := gfac_4 y
  have y5 : y % 5 < 5 := Nat.mod_lt _ (by decide)
  have dd : ∀ v, v < 4 → gdig (gfac y 4) (3 - v) = y / 2 ^ v % 8 + 6 := fun v hv => by
    rcases (show v = 0 ∨ v = 1 ∨ v = 2 ∨ v = 3 by omega) with rfl | rfl | rfl | rfl
    · exact f3
    · exact f2
    · exact f1'
    · exact f0
  have hd : ∀ v, v < 4 → gdig (gfac y 4) v ≤ 18 := fun v hv => by
    have := dd (3 - v) (by omega)
    rw [show 3 - (3 - v) = v by omega] at this
    have m8 : y / 2 ^ (3 - v) % 8 < 8 := Nat.mod_lt _ (by decide)
    omega
  have er : (nI y &&& (31 : Int32)) - (12 : Int32) = nI (y % 32) - (12 : Int32) := by rw [gx_a31 (by omega)]
  have rr : (nI (y % 32) - (12 : Int32)).toInt = ((y % 32 : Nat) : Int) - 12 := pk_sub_toInt (b := 12) (by omega) (by decide)
  have ek : nI y - nI y / (5 : Int32) * (5 : Int32) = nI (y % 5) := gx_5r y (by omega)
  refine gi2_ix (fun i a b => ∃ v, i + v = 4 ∧ b = nI v ∧ a = nI (gfac y v)) ?_ 4 ⟨0, rfl, rfl, rfl⟩
  rintro i X a b ⟨v, hi, rfl, rfl⟩ hX
  unfold p_L_acts_78
  refine ⟨fun z => ?_, fun z => ?_⟩
  · rw [gl_4, nI_leI (by decide) (by omega)] at z
    rw [show v = 4 by omega, gcl_0, hw.1, ek, er]
    refine ⟨gx_in 0 rfl (by decide) (by decide), fun e8 => ?_, fun e8 => ?_⟩
    · rw [gl_8, nI_eq (by omega) (by decide)] at e8
      exact k_add_full hT e8 f1 hd y5 (by omega) ⟨fun _ => hQ 0 u c n mo C _ _ _ _ _ _ _ _ _ (Or.inl rfl) hu hkn (by omega) hT hz hw, fun y => absurd rfl y⟩
    · rw [gl_8, nI_eq (by omega) (by decide)] at e8
      have hn8 : n < 8 := by omega
      refine gi2_ix (fun i a b => ∃ v, i + v = 4 ∧ a = nI v ∧ b 0 = nI n ∧ b 1 = nI mo ∧ (∀ q, 2 ≤ q → q < 3 + 6 * n → b q = w q) ∧ ∀ t, t < v → b (3 + 6 * n + t) = nI (gdig (gfac y 4) (3 - t)) - 9) ?_ 4 ⟨0, rfl, rfl, hw.1, hw.2.1, fun _ _ _ => rfl, fun t ht => absurd ht (Nat.not_lt_zero t)⟩
      rintro i Y a b ⟨v, hi, rfl, b0, b1, b2, b3⟩ hY
      unfold p_L_acts_150
      refine ⟨fun z => ?_, fun z => ?_⟩
      · rw [gl_4, nI_leI (by decide) (by omega)] at z
        have v4 : v = 4 := by omega
        subst v4
        rw [gcl_0, b0, gx_w7, nI_clamp (by omega), ek]
        have u0 : upd b (3 + 6 * n + 4) (nI (y % 32) - 12) 0 = nI n := by rw [pk_un (by omega)]; exact b0
        rw [u0, gx_w8, nI_clamp (by omega)]
        have u1 : upd (upd b (3 + 6 * n + 4) (nI (y % 32) - 12)) (3 + 6 * n + 5) (nI (y % 5)) 0 = nI n := by rw [pk_un (by omega)]; exact u0
        rw [u1, pk_us]
        have e1 : nI n + (1 : Int32) = nI (n + 1) := nI_add _ 1
        have e2 : nI (n + 1) - (1 : Int32) = nI n := nI_pred n
        rw [e1, e2]
        refine ⟨gx_in 0 rfl (by decide) (by decide), vp_in_nI (by omega) (by decide), gx_in 0 rfl (by decide) (by decide), vp_in_nI (by omega) (by decide), gx_in 0 rfl (by decide) (by decide), gx_in 0 rfl (by decide) (by decide), ?_⟩
        refine k_add (x := fun j => if j < 4 then nI (gdig (gfac y 4) (3 - j)) - 9 else if j = 4 then nI (y % 32) - 12 else nI (y % 5)) hT hu hkn hn8 f1 hd y5 (by omega) (fun v hv => if_pos hv) rfl rfl (fun ce1 pa1 hT1 => ⟨gx_in 0 rfl (by decide) (by decide), fun _ => ?_, fun y => absurd rfl y⟩)
        refine hQ 1 (gup u) (c + 6) (n + 1) mo (gadd C n _) _ _ _ _ _ _ _ _ _ (Or.inr rfl) (gup_le hu) rfl (by omega) hT1 (hz.up (e := 6) (by decide) (by omega)) ⟨pk_us, ?_, fun i hi j hj => ?_⟩
        · rw [pk_un (by decide), pk_un (by omega), pk_un (by omega)]; exact b1
        · unfold gadd
          rw [pk_un (by omega)]
          by_cases e : i = n
          · rw [if_pos e]
            subst e
            rcases (show j < 4 ∨ j = 4 ∨ j = 5 by omega) with g | g | g
            · rw [if_pos g, pk_un (by omega), pk_un (by omega)]
              exact b3 j g
            · subst g
              rw [if_neg (by decide), if_pos rfl, pk_un (by omega), pk_us]
            · subst g
              rw [if_neg (by decide), if_neg (by decide), pk_us]
          · rw [if_neg e, pk_un (by omega), pk_un (by omega), b2 _ (by omega) (by omega)]
            exact hw.2.2 i (by omega) j hj
      · rw [gl_4, nI_leI (by decide) (by omega)] at z
        have m8 : y / 2 ^ v % 8 < 8 := Nat.mod_lt _ (by decide)
        have dv : y / 2 ^ v < 2 ^ 31 := Nat.lt_of_le_of_lt (Nat.div_le_self _ _) (by omega)
        rw [gcl_0, b0, gx_m6j, nI_clamp (by omega), gx_sh (by omega) (by omega), gx_a7 dv]
        refine ⟨gx_in 0 rfl (by decide) (by decide), vp_in_nI (by omega) (by decide), hY (i - 1) _ _ (by omega) ⟨v + 1, by omega, by rw [gl_1, nI_add], by rw [pk_un (by omega)]; exact b0, by rw [pk_un (by omega)]; exact b1, fun q q1 q2 => by rw [pk_un (by omega)]; exact b2 q q1 q2, fun t ht => ?_⟩⟩
        by_cases e : t = v
        · subst e
          rw [pk_us, dd t (by omega), gm_d9 _ m8]
        · rw [pk_un (by omega)]; exact b3 t (by omega)
  · rw [gl_4, nI_leI (by decide) (by omega)] at z
    intro z29 hz29
    have dv : y / 2 ^ v < 2 ^ 31 := Nat.lt_of_le_of_lt (Nat.div_le_self _ _) (by omega)
    rw [show (20 : Int32) = nI 20 from rfl, pk_mul, gx_sh (by omega) (by omega), gx_a7 dv, nI_add, gl_6, nI_add] at hz29
    exact hX (i - 1) _ _ (by omega) ⟨v + 1, by omega, by rw [gl_1, nI_add], hz29⟩
theorem lx_acts {x : Nat} (hx : x < 4096) (hT : gTc n mo C cells size most) (hw : gLw n mo C w) (hu : u ≤ 8) (hkn : known = nI u) (hz : gZ c n mo cells changes seen h) (hc : c + 100 < 2 ^ 31) (hQ : gAct c Q) : p_L_acts known size most draw changes cells past seen h w (nI x) Q := by
  have hn := hT.1
  have hmo := hT.2.1
  have hmo7 := hT.2.2.1
  have y512 : x / 8 < 512 := by omega
  have k8 : x / 8 % 8 < 8 := Nat.mod_lt _ (by decide)
  have x8 : x % 8 < 8 := Nat.mod_lt _ (by decide)
  unfold p_L_acts
  intro z hz1
  rw [gx_sh3 (by omega), gx_a7 (by omega)] at hz1
  subst hz1
  rw [gx_sh3 (by omega)]
  have main : ∀ s0 : Int32, (s0 = 1 ∧ x / 8 % 8 < n) ∨ (s0 = 0 ∧ n ≤ x / 8 % 8) → p_L_acts_23 known size most draw changes cells past seen h w (nI x) (nI (x / 8)) (nI (x / 8 % 8)) s0 Q := by
    intro s0 hs
    unfold p_L_acts_23
    rw [gx_a7 (by omega)]
    have act2 : p_L_acts_329 known size most draw changes cells past seen h w (nI (x / 8)) (nI (x / 8 % 8)) s0 Q := lx_act2 hT hw hu hkn hz hc k8 y512 hs hQ
    refine ⟨fun _ => lx_act0 hT hw hu hkn hz hc y512 hQ, fun _ => ⟨fun _ => lx_act1 (x2 := 0) hT hw hu hkn hz hc k8 hs hQ, fun _ => ⟨fun _ => act2, fun _ => ⟨fun _ => act2, fun _ => ⟨fun _ => act2, fun _ => ⟨fun _ => ?_, fun _ => ⟨fun _ => lx_act6 hT hw hu hkn hz hc k8 hs hQ, fun _ => ?_⟩⟩⟩⟩⟩⟩⟩
    · intro z73 hz73
      rw [gx_sh3 (by omega), gx_a7 (by omega), gx_5r _ (by omega)] at hz73
      subst hz73
      have kd5 : x / 8 / 8 % 8 % 5 < 5 := Nat.mod_lt _ (by decide)
      rcases hs with ⟨rfl, hk⟩ | ⟨rfl, hk⟩
      · refine ⟨g10, fun _ => ⟨by rw [gx_w8]; exact vp_in_nI (by omega) (by decide), lx_act5 hT hw hu hkn hz hc k8 kd5 (Or.inl ⟨rfl, hk, ?_⟩) hQ⟩⟩
        rw [gx_w8, nI_clamp (by omega)]
        exact hw.2.2 _ hk 5 (by decide)
      · exact ⟨fun _ => lx_act5 hT hw hu hkn hz hc k8 kd5 (Or.inr ⟨rfl, hk⟩) hQ, g00⟩
    · intro z114 hz114
      rw [gx_sh2 (by omega), gx_a3 (by omega), gl_1, nI_add] at hz114
      subst hz114
      have m4 : x / 8 / 4 % 4 < 4 := Nat.mod_lt _ (by decide)
      rw [gcl_1, hw.2.1]
      have hwm : gLw n (1 + x / 8 / 4 % 4) C (upd w 1 (nI (1 + x / 8 / 4 % 4))) := ⟨by rw [pk_un (by decide)]; exact hw.1, pk_us, fun k hk j hj => by rw [pk_un (by omega)]; exact hw.2.2 k hk j hj⟩
      refine ⟨gx_in 1 rfl (by decide) (by decide), gx_in 1 rfl (by decide) (by decide), fun e => ?_, fun e => ?_⟩
      · rw [nI_eq (by omega) (by omega)] at e
        refine k_call hT hu hkn (by omega) (by omega) (fun _ => ⟨fun _ => ?_, fun y => absurd rfl y⟩) (fun y => absurd e y)
        refine hQ 0 u c n mo C _ _ _ _ _ _ _ _ _ (Or.inl rfl) hu hkn (by omega) hT hz ?_
        rw [← e] at hwm
        rw [← e]
        exact hwm
      · rw [nI_eq (by omega) (by omega)] at e
        refine k_call hT hu hkn (by omega) (by omega) (fun y => absurd y e) (fun _ pa1 hT1 => ⟨fun _ => ?_, fun y => absurd rfl y⟩)
        exact hQ 1 (gup u) (c + 1) n (1 + x / 8 / 4 % 4) C _ _ _ _ _ _ _ _ _ (Or.inr rfl) (gup_le hu) rfl (by omega) hT1 (hz.up1 (by omega)) hwm
  refine ⟨gx_in 0 rfl (by decide) (by decide), ?_⟩
  rw [gcl_0, hw.1]
  refine ⟨fun y => main 0 (Or.inr ⟨rfl, ?_⟩), fun y => main 1 (Or.inl ⟨rfl, ?_⟩)⟩
  · rw [nI_leI (by omega) (by omega)] at y; exact y
  · rw [nI_leI (by omega) (by omega)] at y; omega
end KA
