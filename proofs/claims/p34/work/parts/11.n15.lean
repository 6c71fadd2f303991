/-! drift -/
theorem gm_tb (M : Nat) : (nI M).toBitVec.toNat = M % 2 ^ 32 := by
  show (BitVec.ofNat 32 M).toNat = M % 2 ^ 32
  exact BitVec.toNat_ofNat M 32
def gdr (d : Nat) : Nat := (d * 1103515245 + 12345) % 2147483648
theorem gdr_lt (d : Nat) : gdr d < 2147483648 := Nat.mod_lt _ (by decide)
theorem gdr_c (d : Nat) : (nI d * (1103515245 : Int32) + (12345 : Int32)) &&& (2147483647 : Int32) = nI (gdr d) := by
  rw [show (1103515245 : Int32) = nI 1103515245 from rfl, show (12345 : Int32) = nI 12345 from rfl, pk_mul, nI_add, pk_and _ 31 (by decide), gm_tb]
  have key : ∀ M : Nat, M % 2 ^ 32 % 2 ^ 31 = M % 2147483648 := fun M => by omega
  unfold gdr
  rw [key]
theorem gdr_m {d : Nat} (hd : d < 2147483648) : ((((nI d).toInt64) * (1103515245 : Int64) + (12345 : Int64)) - (((nI d).toInt64) * (1103515245 : Int64) + (12345 : Int64)) / (2147483648 : Int64) * (2147483648 : Int64)).toInt32 = nI (gdr d) := by
  rw [nI_l (by omega), show (1103515245 : Int64) = lN 1103515245 from rfl, show (12345 : Int64) = lN 12345 from rfl, show (2147483648 : Int64) = lN 2147483648 from rfl, lN_mul, lN_add, pk_lRem (by omega) (by decide) (by decide), lN_i]
  rfl
theorem gSnap_draw {n mo d : Nat} {cells now : Nat → Int32} {size most draw : Int32} (hS : gSnap n mo cells size most draw now) (hd : d < 2147483648) : gSnap n mo cells size most (nI d) (upd now 2 (nI d)) := by
  obtain ⟨g1, g2, g3, g4, g5, g6, g7, g8, g9, g10, g11⟩ := hS
  refine ⟨g1, g2, g3, g4, g5, by rw [pk_un (by decide), g6], by rw [pk_un (by decide), g7], pk_us, by rw [nI_toInt (by omega)]; omega, fun k hk j hj => ?_, g11⟩
  rw [pk_un (by omega)]
  exact g10 k hk j hj
theorem gx_d (a d : Nat) (ha : a < 2147483648) (h0 : 0 < d) (hd : d < 2147483648) : nI a / nI d = nI (a / d) := pk_div ha h0 hd
theorem gx_r (a d : Nat) (ha : a < 2147483648) (h0 : 0 < d) (hd : d < 2147483648) : nI a - nI a / nI d * nI d = nI (a % d) := pk_rem ha h0 hd
theorem gx_65536 (a : Nat) (ha : a < 2147483648) : nI a / (65536 : Int32) = nI (a / 65536) := pk_div (d := 65536) ha (by decide) (by decide)
theorem gx_8d (a : Nat) (ha : a < 2147483648) : nI a / (8 : Int32) = nI (a / 8) := pk_div (d := 8) ha (by decide) (by decide)
theorem gx_64d (a : Nat) (ha : a < 2147483648) : nI a / (64 : Int32) = nI (a / 64) := pk_div (d := 64) ha (by decide) (by decide)
theorem gx_5r (a : Nat) (ha : a < 2147483648) : nI a - nI a / (5 : Int32) * (5 : Int32) = nI (a % 5) := pk_rem (d := 5) ha (by decide) (by decide)
theorem gx_19r (a : Nat) (ha : a < 2147483648) : nI a - nI a / (19 : Int32) * (19 : Int32) = nI (a % 19) := pk_rem (d := 19) ha (by decide) (by decide)
theorem gcl_2 : (2 : Int32).toNatClampNeg = 2 := by decide
/-- where the draw changes a cell, and to what -/
def gdk (n d : Nat) : Nat := d / 65536 % n
def gdj (d : Nat) : Nat := d / 65536 / 8 % 5
def gdv (d : Nat) : Int32 := nI (d / 65536 / 64 % 19) - 9
theorem s_X9_driftOnce {n d : Nat} {changes : Int32} {cells : Nat → Int32} {Q : Int32 → Int32 → (Nat → Int32) → Prop} (hn : n ≤ 8) (h0 : n = 0 → Q (nI (gdr d)) changes cells) (h1 : 0 < n → Q (nI (gdr d)) (changes + 1) (upd cells (6 * gdk n (gdr d) + gdj (gdr d)) (gdv (gdr d)))) : p_X9_driftOnce (nI n) (nI d) changes cells Q := by
  unfold p_X9_driftOnce p_X9_setCell
  rw [gdr_c]
  have hd := gdr_lt d
  revert h0 h1 hd
  generalize gdr d = d'
  intro h0 h1 hd z hz
  rw [gx_65536 _ hd] at hz
  subst hz
  have hx : d' / 65536 < 32768 := by omega
  unfold gdk gdj gdv at h1
  revert h1 hx
  generalize d' / 65536 = x
  intro h1 hx
  refine ⟨fun g => ?_, fun g => ?_⟩
  · refine h0 ?_
    rw [gl_0, nI_leI (by omega) (by decide)] at g
    omega
  · rw [gl_0, nI_leI (by omega) (by decide)] at g
    have hk : x % n < n := Nat.mod_lt _ (by omega)
    have hj : x / 8 % 5 < 5 := Nat.mod_lt _ (by decide)
    refine ⟨nI_ne0 (by omega) (by omega), ?_⟩
    rw [gx_r _ _ (by omega) (by omega) (by omega), gx_8d _ (by omega), gx_5r _ (by omega), gx_64d _ (by omega), gx_19r _ (by omega)]
    refine ⟨gx_in _ (gx_6 (x % n) (x / 8 % 5)) (by omega) (by decide), ?_⟩
    rw [gx_cl _ (gx_6 (x % n) (x / 8 % 5)) (by omega)]
    exact h1 (by omega)
theorem gSnap_drift {n mo d : Nat} {cells now : Nat → Int32} {size most draw : Int32} (hS : gSnap n mo cells size most draw now) (hd : d < 2147483648) (h1 : 0 < n) : gSnap n mo (upd cells (6 * gdk n d + gdj d) (gdv d)) size most (nI d) (upd (upd now 2 (nI d)) (3 + 6 * gdk n d + gdj d) (gdv d)) := by
  have hk : gdk n d < n := Nat.mod_lt _ h1
  have hj : gdj d < 5 := Nat.mod_lt _ (by decide)
  have hv : -9 ≤ (gdv d).toInt ∧ (gdv d).toInt ≤ 9 := by
    unfold gdv
    rw [gl_9, pk_sub_toInt (by omega) (by omega)]
    omega
  exact gSnap_set (gSnap_draw hS hd) hk (by omega) (fun _ => hv) (fun _ => by omega) (fun z => by omega)
