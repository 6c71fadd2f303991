/-! the law's own methods over what it keeps -/
def gLw (n mo : Nat) (C : Nat → Nat → Int32) (w : Nat → Int32) : Prop := w 0 = nI n ∧ w 1 = nI mo ∧ ∀ k, k < n → ∀ j, j < 6 → w (3 + 6 * k + j) = C k j
theorem gv_0' {p : Nat} (hp : p < 4096) : nI p / (512 : Int32) = nI (gv p 0) := by
  rw [show (512 : Int32) = nI 512 from rfl, pk_div (by omega) (by decide) (by decide), gv0, Nat.mod_eq_of_lt (by omega)]
theorem gv_1' {p : Nat} (hp : p < 4096) : nI p / (64 : Int32) - nI p / (64 : Int32) / (8 : Int32) * (8 : Int32) = nI (gv p 1) := by
  rw [show (64 : Int32) = nI 64 from rfl, pk_div (by omega) (by decide) (by decide), gl_8, pk_rem (by omega) (by decide) (by decide), gv1]
theorem gv_2' {p : Nat} (hp : p < 4096) : nI p / (8 : Int32) - nI p / (8 : Int32) / (8 : Int32) * (8 : Int32) = nI (gv p 2) := by
  rw [gl_8, pk_div (by omega) (by decide) (by decide), pk_rem (by omega) (by decide) (by decide), gv2]
theorem gv_3' {p : Nat} (hp : p < 4096) : nI p - nI p / (8 : Int32) * (8 : Int32) = nI (gv p 3) := by
  rw [gl_8, pk_rem (by omega) (by decide) (by decide), gv3]
section KL
variable {n mo : Nat} {C : Nat → Nat → Int32} {w : Nat → Int32}
theorem lx_sum {k p : Nat} {Q : Int32 → Prop} (hw : gLw n mo C w) (hn : n ≤ 8) (hk : k < n) (hp : p < 4096) (hQ : Q (gsum (C k) p)) : p_L_sum w (nI k) (nI p) Q := by
  obtain ⟨-, -, hc⟩ := hw
  have e0 : (3 : Int32) + (6 : Int32) * nI k = nI (3 + 6 * k) := gx_m6 k
  have e1 : nI (3 + 6 * k) + (1 : Int32) = nI (3 + 6 * k + 1) := nI_add _ 1
  have e2 : nI (3 + 6 * k) + (2 : Int32) = nI (3 + 6 * k + 2) := nI_add _ 2
  have e3 : nI (3 + 6 * k) + (3 : Int32) = nI (3 + 6 * k + 3) := nI_add _ 3
  have e4 : nI (3 + 6 * k) + (4 : Int32) = nI (3 + 6 * k + 4) := nI_add _ 4
  unfold p_L_sum
  rw [e0, e1, e2, e3, e4, gv_0' hp, gv_1' hp, gv_2' hp, gv_3' hp, nI_clamp (by omega), nI_clamp (by omega), nI_clamp (by omega), nI_clamp (by omega), nI_clamp (by omega)]
  refine ⟨vp_in_nI (by omega) (by decide), vp_in_nI (by omega) (by decide), vp_in_nI (by omega) (by decide), vp_in_nI (by omega) (by decide), vp_in_nI (by omega) (by decide), ?_⟩
  have h0 : w (3 + 6 * k) = C k 0 := hc k hk 0 (by decide)
  rw [h0, hc k hk 1 (by decide), hc k hk 2 (by decide), hc k hk 3 (by decide), hc k hk 4 (by decide)]
  exact hQ
theorem lx_so {kind s : Int32} {Q : Int32 → Prop} (hQ : Q (if ghold kind s = true then 1 else 0)) : p_L_so kind s Q := by
  have zm : (-1 : Int32).toInt = -1 := rfl
  have z0 : (0 : Int32).toInt = 0 := rfl
  have z1 : (1 : Int32).toInt = 1 := rfl
  unfold p_L_so
  unfold ghold at hQ
  refine ⟨fun e => ?_, fun e0 => ⟨fun e => ?_, fun e1 => ⟨fun e => ?_, fun e2 => ⟨fun e => ?_, fun e3 => ?_⟩⟩⟩⟩
  · rw [if_pos e] at hQ
    refine ⟨fun g => ?_, fun g => ?_⟩
    · rw [decide_eq_false (by rw [Int32.le_iff_toInt_le] at g ⊢; omega)] at hQ; exact hQ
    · rw [decide_eq_true (by rw [Int32.le_iff_toInt_le] at g ⊢; omega)] at hQ; exact hQ
  · rw [if_neg e0, if_pos e] at hQ
    refine ⟨fun g => ?_, fun g => ?_⟩
    · rw [decide_eq_false (by rw [Int32.le_iff_toInt_le] at g ⊢; omega)] at hQ; exact hQ
    · rw [decide_eq_true (by rw [Int32.le_iff_toInt_le] at g ⊢; omega)] at hQ; exact hQ
  · rw [if_neg e0, if_neg e1, if_pos e] at hQ
    refine ⟨fun g => ?_, fun g => ?_⟩
    · rw [decide_eq_true g] at hQ; exact hQ
    · rw [decide_eq_false g] at hQ; exact hQ
  · rw [if_neg e0, if_neg e1, if_neg e2, if_pos e] at hQ
    refine ⟨fun g => ?_, fun g => ?_⟩
    · rw [decide_eq_false (fun y => y g)] at hQ; exact hQ
    · rw [decide_eq_true g] at hQ; exact hQ
  · rw [if_neg e0, if_neg e1, if_neg e2, if_neg e3] at hQ
    refine ⟨fun g => ?_, fun g => ?_⟩
    · rw [decide_eq_true g] at hQ; exact hQ
    · rw [decide_eq_false g] at hQ; exact hQ
theorem gx_w8 (k : Nat) : (8 : Int32) + (6 : Int32) * nI k = nI (3 + 6 * k + 5) := by
  rw [gl_8, gl_6, pk_mul, nI_add]
  congr 1
  omega
theorem gx_w7 (k : Nat) : (7 : Int32) + (6 : Int32) * nI k = nI (3 + 6 * k + 4) := by
  rw [gl_7, gl_6, pk_mul, nI_add]
  congr 1
  omega
theorem lx_hold {p : Nat} {Q : Int32 → Prop} (hw : gLw n mo C w) (hn : n ≤ 8) (hp : p < 4096) (hQ : Q (nI (gmask C n p))) : p_L_hold w (nI p) Q := by
  have hw' := hw
  obtain ⟨h0, -, hc⟩ := hw
  unfold p_L_hold
  refine gi2_inv n (fun k a b => b = nI k ∧ a = nI (gmask C k p)) ?_ ?_ ⟨rfl, rfl⟩
  · rintro k hk X a b ⟨rfl, rfl⟩ hX
    unfold p_L_hold_4
    refine ⟨gx_in 0 rfl (by decide) (by decide), ?_⟩
    rw [gcl_0, h0]
    refine ⟨fun g => ?_, fun _ => ?_⟩
    · rw [nI_leI (by omega) (by omega)] at g; omega
    · rw [gx_w8]
      refine ⟨vp_in_nI (by omega) (by decide), lx_sum hw' hn hk hp ?_⟩
      rw [nI_clamp (by omega), hc k hk 5 (by decide)]
      refine lx_so ⟨fun g => ?_, fun g => ?_⟩
      · unfold p_L_hold_40
        refine hX _ _ ⟨by rw [gl_1, nI_add], ?_⟩
        show _ = nI (gmask C k p + _)
        by_cases e : ghold (C k 5) (gsum (C k) p) = true
        · rw [if_pos e] at g; exact absurd g (by decide)
        · rw [if_neg e]; exact Int32.or_zero
      · unfold p_L_hold_40
        refine hX _ _ ⟨by rw [gl_1, nI_add], ?_⟩
        show _ = nI (gmask C k p + _)
        by_cases e : ghold (C k 5) (gsum (C k) p) = true
        · rw [if_pos e]; exact gm_or8 k (by omega) _ (gmask_lt _ _ _)
        · rw [if_neg e] at g; exact absurd rfl g
  · rintro X a b ⟨rfl, rfl⟩
    unfold p_L_hold_4
    refine ⟨gx_in 0 rfl (by decide) (by decide), ?_⟩
    rw [gcl_0, h0]
    exact ⟨fun _ => hQ, fun g => absurd (by rw [nI_leI (by omega) (by omega)]; exact Nat.le_refl _) g⟩
theorem lx_next {x : Int32} {q : Nat} {Q : Int32 → Prop} (hw : gLw n mo C w) (hm : mo ≤ 7) (hx : x + (1 : Int32) = nI q) (hq : q ≤ 4096) (hQ : ∀ r, q ≤ r → r ≤ 4096 → (r < 4096 → gbox mo r = true) → (∀ t, q ≤ t → t < r → ¬ gbox mo t = true) → Q (nI r)) : p_L_next w x Q := by
  obtain ⟨-, h1, -⟩ := hw
  unfold p_L_next
  rw [hx]
  refine gi1_ix (fun i a => ∃ r, i + r = 4096 ∧ q ≤ r ∧ a = nI r ∧ ∀ t, q ≤ t → t < r → ¬ gbox mo t = true) ?_ (4096 - q) ⟨q, by omega, Nat.le_refl _, rfl, fun t z1 z2 => by omega⟩
  rintro i X a ⟨r, hi, hqr, rfl, hr⟩ hX
  unfold p_L_next_4
  have lt4 : ∀ j, gv r j < 2 ^ 31 := fun j => Nat.lt_trans (gv_lt r j) (by decide)
  refine ⟨fun g => ?_, fun g => ?_⟩
  · rw [gl_4096, nI_leI (by decide) (by omega)] at g
    exact hQ r hqr (by omega) (fun z => by omega) hr
  · rw [gl_4096, nI_leI (by decide) (by omega)] at g
    have hr4 : r < 4096 := by omega
    rw [gcl_1, h1, gv_0' hr4, gv_1' hr4, gv_2' hr4, gv_3' hr4]
    have go : ¬ gbox mo r = true → p_L_next_58 (nI r) X := fun z => by
      unfold p_L_next_58
      exact hX (i - 1) _ (by omega) ⟨r + 1, by omega, by omega, by rw [gl_1, nI_add], fun t z1 z2 => by
        by_cases e : t = r
        · rw [e]; exact z
        · exact hr t z1 (by omega)⟩
    refine ⟨gx_in 1 rfl (by decide) (by decide), fun g0 => go ?_, fun g0 => ⟨gx_in 1 rfl (by decide) (by decide), fun g1 => go ?_, fun g1 => ⟨gx_in 1 rfl (by decide) (by decide), fun g2 => go ?_, fun g2 => ⟨gx_in 1 rfl (by decide) (by decide), fun g3 => hQ r hqr (by omega) (fun _ => ?_) hr, fun g3 => go ?_⟩⟩⟩⟩
    · rw [nI_ltI (by omega) (lt4 0)] at g0
      intro z; rw [gbox_iff] at z; have := z 0 (by decide); omega
    · rw [nI_ltI (by omega) (lt4 1)] at g1
      intro z; rw [gbox_iff] at z; have := z 1 (by decide); omega
    · rw [nI_ltI (by omega) (lt4 2)] at g2
      intro z; rw [gbox_iff] at z; have := z 2 (by decide); omega
    · rw [nI_ltI (by omega) (lt4 0)] at g0
      rw [nI_ltI (by omega) (lt4 1)] at g1
      rw [nI_ltI (by omega) (lt4 2)] at g2
      rw [nI_leI (lt4 3) (by omega)] at g3
      rw [gbox_iff]
      intro j hj
      rcases (show j = 0 ∨ j = 1 ∨ j = 2 ∨ j = 3 by omega) with rfl | rfl | rfl | rfl <;> omega
    · rw [nI_leI (lt4 3) (by omega)] at g3
      intro z; rw [gbox_iff] at z; have := z 3 (by decide); omega
theorem lx_points {Q : Int32 → Prop} (hw : gLw n mo C w) (hn : n ≤ 8) (hm : mo ≤ 7) (hQ : Q (nI (gcnt (gfull C n mo) 4096))) : p_L_points w (nI (2 ^ n - 1)) Q := by
  have skip : ∀ a b, a ≤ b → (∀ t, a ≤ t → t < b → ¬ gbox mo t = true) → gcnt (gfull C n mo) b = gcnt (gfull C n mo) a := fun a b hab hs => gcnt_none hab (fun t z1 z2 z => hs t z1 z2 (gfull_box z))
  unfold p_L_points
  refine lx_next hw hm (q := 0) rfl (Nat.zero_le _) (fun r0 _ hr0 hb0 hs0 => ?_)
  refine gi2_ix (fun i a b => ∃ r, i + r = 4096 ∧ b = nI r ∧ (r < 4096 → gbox mo r = true) ∧ a = nI (gcnt (gfull C n mo) r)) ?_ (4096 - r0) ⟨r0, by omega, rfl, hb0, by rw [skip 0 r0 (Nat.zero_le _) hs0]; rfl⟩
  rintro i X a b ⟨r, hi, rfl, hb, rfl⟩ hX
  unfold p_L_points_8
  refine ⟨fun g => ?_, fun g => ?_⟩
  · rw [gl_4096, nI_leI (by decide) (by omega)] at g
    rw [show r = 4096 by omega]
    exact hQ
  · rw [gl_4096, nI_leI (by decide) (by omega)] at g
    have hr4 : r < 4096 := by omega
    have go : ∀ (d : Int32), nI (gcnt (gfull C n mo) r) + d = nI (gcnt (gfull C n mo) (r + 1)) → p_L_points_32 w (nI r) (nI (gcnt (gfull C n mo) r)) d X := fun d hd => by
      unfold p_L_points_32
      refine lx_next hw hm (q := r + 1) (by rw [gl_1, nI_add]) (by omega) (fun r' h1 h2 h3 h4 => hX (4096 - r') _ _ (by omega) ⟨r', by omega, rfl, h3, ?_⟩)
      rw [hd, skip (r + 1) r' h1 h4]
    refine lx_hold hw hn hr4 ⟨fun z => go _ ?_, fun z => go _ ?_⟩
    · have : gfull C n mo r = true := (gfull_and hn).mpr ⟨hb hr4, z⟩
      rw [gcnt_s this]
      exact nI_add _ 1
    · have : ¬ gfull C n mo r = true := fun y => z ((gfull_and hn).mp y).2
      rw [gcnt_n this]
      exact Int32.add_zero _
theorem lx_all {Q : Int32 → Prop} (hw : gLw n mo C w) (hn : n ≤ 8) (hQ : Q (nI (2 ^ n - 1))) : p_L_all w Q := by
  unfold p_L_all
  refine ⟨gx_in 0 rfl (by decide) (by decide), ?_⟩
  rw [gcl_0, hw.1, gm_all n hn]
  exact hQ
theorem lx_value {p v : Nat} {Q : Int32 → Prop} (hp : p < 4096) (hv : v < 4) (hQ : Q (nI (gv p v))) : p_L_value (nI p) (nI v) Q := by
  unfold p_L_value
  rcases (show v = 0 ∨ v = 1 ∨ v = 2 ∨ v = 3 by omega) with rfl | rfl | rfl | rfl
  · exact ⟨fun _ => by rw [gv_0' hp]; exact hQ, fun z => absurd rfl z⟩
  · exact ⟨fun z => absurd z (by decide), fun _ => ⟨fun _ => by rw [gv_1' hp]; exact hQ, fun z => absurd rfl z⟩⟩
  · exact ⟨fun z => absurd z (by decide), fun _ => ⟨fun z => absurd z (by decide), fun _ => ⟨fun _ => by rw [gv_2' hp]; exact hQ, fun z => absurd rfl z⟩⟩⟩
  · exact ⟨fun z => absurd z (by decide), fun _ => ⟨fun z => absurd z (by decide), fun _ => ⟨fun z => absurd z (by decide), fun _ => by rw [gv_3' hp]; exact hQ⟩⟩⟩
def gsgn (c : Nat) : Nat := if c = 0 then 62 else if c = 1 then 60 else if c = 2 then 61 else if c = 3 then 35 else 37
theorem lx_sign {c : Nat} {Q : Int32 → Prop} (hc : c ≤ 4) (hQ : Q (nI (gsgn c))) : p_L_sign (nI c) Q := by
  unfold p_L_sign
  rcases (show c = 0 ∨ c = 1 ∨ c = 2 ∨ c = 3 ∨ c = 4 by omega) with rfl | rfl | rfl | rfl | rfl
  · exact ⟨fun _ => hQ, fun z => absurd rfl z⟩
  · exact ⟨fun z => absurd z (by decide), fun _ => ⟨fun _ => hQ, fun z => absurd rfl z⟩⟩
  · exact ⟨fun z => absurd z (by decide), fun _ => ⟨fun z => absurd z (by decide), fun _ => ⟨fun _ => hQ, fun z => absurd rfl z⟩⟩⟩
  · exact ⟨fun z => absurd z (by decide), fun _ => ⟨fun z => absurd z (by decide), fun _ => ⟨fun z => absurd z (by decide), fun _ => ⟨fun _ => hQ, fun z => absurd rfl z⟩⟩⟩⟩
  · exact ⟨fun z => absurd z (by decide), fun _ => ⟨fun z => absurd z (by decide), fun _ => ⟨fun z => absurd z (by decide), fun _ => ⟨fun z => absurd z (by decide), fun _ => hQ⟩⟩⟩⟩
/-- a cell of the script is not below 0 -/
theorem lx_cell {sL k : Nat} {xs : Nat → Int32} {Q : Int32 → Prop} (hL : sL ≤ 260) (hk : k < 260) (hQ : ∀ x, x < 2 ^ 31 → (∀ Q' : Int32 → Prop, Q' (nI x) → p_L_cell sL xs (nI k) Q') → Q (nI x)) : p_L_cell sL xs (nI k) Q := by
  have eq : (2147483647 : Int32).toBitVec.toNat = 2 ^ 31 - 1 := by decide
  have sLe : Int32.ofNat sL = nI sL := rfl
  by_cases h : sL ≤ k
  · obtain ⟨x, hx, ex⟩ := pk_andE ((15485957 : Int32) * nI k + (107 : Int32)) 31 eq
    have all : ∀ Q' : Int32 → Prop, Q' (nI x) → p_L_cell sL xs (nI k) Q' := fun Q' q => by
      unfold p_L_cell p_L_cell_19
      refine ⟨fun _ => by rw [ex]; exact q, fun z => absurd (by rw [sLe, nI_leI (by omega) (by omega)]; exact h) z⟩
    exact all Q (hQ x hx all)
  · obtain ⟨x, hx, ex⟩ := pk_andE (xs k) 31 eq
    have all : ∀ Q' : Int32 → Prop, Q' (nI x) → p_L_cell sL xs (nI k) Q' := fun Q' q => by
      unfold p_L_cell p_L_cell_19
      refine ⟨fun z => ?_, fun _ => ⟨vp_in_nI (by omega) (by omega), ?_⟩⟩
      · rw [sLe, nI_leI (by omega) (by omega)] at z; exact absurd z h
      · rw [nI_clamp (by omega), ex]; exact q
    exact all Q (hQ x hx all)
end KL
