/-! drift -/
theorem gm_tb (M : Nat) : (nI M).toBitVec.toNat = M % 2 ^ 32 := by
  show (BitVec.ofNat 32 M).toNat = M % 2 ^ 32
  exact BitVec.toNat_ofNat M 32
def gdr (d : Nat) : Nat := (d * 1103515245 + 12345) % 2147483648
theorem gdr_lt (d : Nat) : gdr d < 2147483648 := Nat.mod_lt _ (by decide)
theorem gdr_c (d : Nat) : (nI d * (1103515245 : Int32) + (12345 : Int32)) &&& (2147483647 : Int32) = nI (gdr d) := by
  rw [show (1103515245 : Int32) = nI 1103515245 from rfl, show (12345 : Int32) = nI 12345 from rfl, pk_mul, nI_add, pk_and _ 31 (by decide), gm_tb]
  have key : ∀ M : Nat, M % 2 ^ 32 % 2 ^ 31 = M % 2147483648 := fun M => by omega
  unfold gdr
  rw [key]
theorem gdr_m {d : Nat} (hd : d < 2147483648) : ((((nI d).toInt64) * (1103515245 : Int64) + (12345 : Int64)) - (((nI d).toInt64) * (1103515245 : Int64) + (12345 : Int64)) / (2147483648 : Int64) * (2147483648 : Int64)).toInt32 = nI (gdr d) := by
  rw [nI_l (by omega), show (1103515245 : Int64) = lN 1103515245 from rfl, show (12345 : Int64) = lN 12345 from rfl, show (2147483648 : Int64) = lN 2147483648 from rfl, lN_mul, lN_add, pk_lRem (by omega) (by decide) (by decide), lN_i]
  rfl
theorem gSnap_draw {n mo d : Nat} {cells now : Nat → Int32} {size most draw : Int32} (hS : gSnap n mo cells size most draw now) (hd : d < 2147483648) : gSnap n mo cells size most (nI d) (upd now 2 (nI d)) := by
  obtain ⟨g1, g2, g3, g4, g5, g6, g7, g8, g9, g10, g11⟩ := hS
  refine ⟨g1, g2, g3, g4, g5, by rw [pk_un (by decide), g6], by rw [pk_un (by decide), g7], pk_us, by rw [nI_toInt (by omega)]; omega, fun k hk j hj => ?_, g11⟩
  rw [pk_un (by omega)]
  exact g10 k hk j hj
theorem gx_d (a d : Nat) (ha : a < 2147483648) (h0 : 0 < d) (hd : d < 2147483648) : nI a / nI d = nI (a / d) := pk_div ha h0 hd
theorem gx_r (a d : Nat) (ha : a < 2147483648) (h0 : 0 < d) (hd : d < 2147483648) : nI a - nI a / nI d * nI d = nI (a % d) := pk_rem ha h0 hd
theorem gx_65536 (a : Nat) (ha : a < 2147483648) : nI a / (65536 : Int32) = nI (a / 65536) := pk_div (d := 65536) ha (by decide) (by decide)
theorem gx_8d (a : Nat) (ha : a < 2147483648) : nI a / (8 : Int32) = nI (a / 8) := pk_div (d := 8) ha (by decide) (by decide)
theorem gx_64d (a : Nat) (ha : a < 2147483648) : nI a / (64 : Int32) = nI (a / 64) := pk_div (d := 64) ha (by decide) (by decide)
theorem gx_5r (a : Nat) (ha : a < 2147483648) : nI a - nI a / (5 : Int32) * (5 : Int32) = nI (a % 5) := pk_rem (d := 5) ha (by decide) (by decide)
theorem gx_19r (a : Nat) (ha : a < 2147483648) : nI a - nI a / (19 : Int32) * (19 : Int32) = nI (a % 19) := pk_rem (d := 19) ha (by decide) (by decide)
theorem gcl_2 : (2 : Int32).toNatClampNeg = 2 := by decide
/-- where the draw changes a cell, and to what -/
def gdk (n d : Nat) : Nat := d / 65536 % n
def gdj (d : Nat) : Nat := d / 65536 / 8 % 5
def gdv (d : Nat) : Int32 := nI (d / 65536 / 64 % 19) - 9
theorem s_X9_driftOnce {n d : Nat} {changes : Int32} {cells : Nat → Int32} {Q : Int32 → Int32 → (Nat → Int32) → Prop} (hn : n ≤ 8) (h0 : n = 0 → Q (nI (gdr d)) changes cells) (h1 : 0 < n → Q (nI (gdr d)) (changes + 1) (upd cells (6 * gdk n (gdr d) + gdj (gdr d)) (gdv (gdr d)))) : p_X9_driftOnce (nI n) (nI d) changes cells Q := by
  unfold p_X9_driftOnce p_X9_setCell
  rw [gdr_c]
  have hd := gdr_lt d
  revert h0 h1 hd
  generalize gdr d = d'
  intro h0 h1 hd z hz
  rw [gx_65536 _ hd] at hz
  subst hz
  have hx : d' / 65536 < 32768 := by omega
  unfold gdk gdj gdv at h1
  revert h1 hx
  generalize d' / 65536 = x
  intro h1 hx
  refine ⟨fun g => ?_, fun g => ?_⟩
  · refine h0 ?_
    rw [gl_0, nI_leI (by omega) (by decide)] at g
    omega
  · rw [gl_0, nI_leI (by omega) (by decide)] at g
    have hk : x % n < n := Nat.mod_lt _ (by omega)
    have hj : x / 8 % 5 < 5 := Nat.mod_lt _ (by decide)
    refine ⟨nI_ne0 (by omega) (by omega), ?_⟩
    rw [gx_r _ _ (by omega) (by omega) (by omega), gx_8d _ (by omega), gx_5r _ (by omega), gx_64d _ (by omega), gx_19r _ (by omega)]
    refine ⟨gx_in _ (gx_6 (x % n) (x / 8 % 5)) (by omega) (by decide), ?_⟩
    rw [gx_cl _ (gx_6 (x % n) (x / 8 % 5)) (by omega)]
    exact h1 (by omega)
theorem gSnap_drift {n mo d : Nat} {cells now : Nat → Int32} {size most draw : Int32} (hS : gSnap n mo cells size most draw now) (hd : d < 2147483648) (h1 : 0 < n) : gSnap n mo (upd cells (6 * gdk n d + gdj d) (gdv d)) size most (nI d) (upd (upd now 2 (nI d)) (3 + 6 * gdk n d + gdj d) (gdv d)) := by
  have hk : gdk n d < n := Nat.mod_lt _ h1
  have hj : gdj d < 5 := Nat.mod_lt _ (by decide)
  have hv : -9 ≤ (gdv d).toInt ∧ (gdv d).toInt ≤ 9 := by
    unfold gdv
    rw [gl_9, pk_sub_toInt (by omega) (by omega)]
    omega
  exact gSnap_set (gSnap_draw hS hd) hk (by omega) (fun _ => hv) (fun _ => by omega) (fun z => by omega)
theorem s_X11_drift_step {n mo u d m i : Nat} {many undos size most : Int32} {holds points ahead now cells : Nat → Int32} {K : Int32 → Int32 → (Nat → Int32) → (Nat → Int32) → Prop} {Q : Int32 → Int32 → Int32 → (Nat → Int32) → (Nat → Int32) → (Nat → Int32) → (Nat → Int32) → Prop} (hS : gSnap n mo cells size most (nI d) now) (hd : d < 2147483648) (hu : u ≤ 8) (hun : undos = nI u) (hi : i < m) (hm : m ≤ 40)
    (hK : ∀ v e a', gSlot u v e → (∀ i, i < v → ∀ q, q < 51 → a' (51 * i + q) = ahead (51 * (i + e) + q)) → (∀ q, q < 51 → a' (51 * v + q) = now q) → ∀ now', (n = 0 → now' = upd now 2 (nI (gdr d))) → (0 < n → now' = upd (upd now 2 (nI (gdr d))) (3 + 6 * gdk n (gdr d) + gdj (gdr d)) (gdv (gdr d))) → K (nI (i + 1)) (nI (v + 1)) a' now') : p_X11_drift_17 many holds points (nI m) Q K (nI i) undos ahead now := by
  obtain ⟨g1, g2, g3, g4, g5, g6, g7, g8, g9, g10, g11⟩ := id hS
  unfold p_X11_drift_17 p_X11_drift_112
  refine ⟨fun g => ?_, fun _ => s_X11_notes hu hun (fun v e a' q1 q2 q3 => ⟨vp_in_nI (n := 2) (by decide) (by decide), fun z9 h9 => ?_⟩)⟩
  · rw [nI_leI (by omega) (by omega)] at g; omega
  · have hz : z9.toInt32 = nI (gdr d) := by
      rw [h9, gcl_2, g8]
      exact gdr_m hd
    rw [hz]
    have hnext : nI i + (1 : Int32) = nI (i + 1) := nI_add i 1
    have hd' := gdr_lt d
    rw [hnext, gcl_2, gcl_0]
    refine ⟨vp_in_nI (n := 2) (by decide) (by decide), vp_in_nI (n := 2) (by decide) (by decide), fun z12 h12 => ⟨vp_in_nI (n := 0) (by decide) (by decide), ?_⟩⟩
    rw [pk_us, gx_65536 _ hd'] at h12
    subst h12
    rw [pk_un (show (0 : Nat) ≠ 2 by decide), g6]
    have hh := hK v e a' q1 q2 q3
    refine ⟨fun g => ?_, fun g => ?_⟩
    · rw [gl_0, nI_leI (by omega) (by decide)] at g
      exact hh _ (fun _ => rfl) (fun z => by omega)
    · rw [gl_0, nI_leI (by omega) (by decide)] at g
      refine ⟨vp_in_nI (n := 0) (by decide) (by decide), nI_ne0 (by omega) (by omega), ?_⟩
      have hx : gdr d / 65536 < 32768 := by omega
      have hk : gdk n (gdr d) < n := Nat.mod_lt _ (by omega)
      have hj : gdj (gdr d) < 5 := Nat.mod_lt _ (by decide)
      have e1 : nI (gdr d / 65536) - nI (gdr d / 65536) / nI n * nI n = nI (gdk n (gdr d)) := gx_r _ _ (by omega) (by omega) (by omega)
      have e2 : nI (gdr d / 65536) / (8 : Int32) - nI (gdr d / 65536) / (8 : Int32) / (5 : Int32) * (5 : Int32) = nI (gdj (gdr d)) := by
        rw [gx_8d _ (by omega), gx_5r _ (by omega)]
        rfl
      have e3 : nI (gdr d / 65536) / (64 : Int32) - nI (gdr d / 65536) / (64 : Int32) / (19 : Int32) * (19 : Int32) - (9 : Int32) = gdv (gdr d) := by
        rw [gx_64d _ (by omega), gx_19r _ (by omega)]
        rfl
      rw [e1, e2, e3]
      refine ⟨gx_in _ (gx_m6j (gdk n (gdr d)) (gdj (gdr d))) (by omega) (by decide), ?_⟩
      rw [gx_cl _ (gx_m6j (gdk n (gdr d)) (gdj (gdr d))) (by omega)]
      exact hh _ (fun z => by omega) (fun _ => rfl)
theorem o_drift {n mo u : Nat} {cells past now ahead h holds points : Nat → Int32} {size most draw known undos changes seen many a1 : Int32} {X : Int32 → Int32 → Int32 → (Nat → Int32) → (Nat → Int32) → Int32 → (Nat → Int32) → Int32 → Int32 → (Nat → Int32) → (Nat → Int32) → (Nat → Int32) → (Nat → Int32) → Prop} (hB : gBook n mo u cells size most draw known past now undos ahead) (hv : seen = changes → gVh (fun k j => cells (6 * k + j)) n mo h) (hne : ∀ e, 1 ≤ e → e ≤ 40 → ¬ seen = changes + nI e) (hX0 : X known draw changes cells past seen h many undos ahead holds now points)
    (hX1 : ∀ u' d' e c' p' h' m a' hs now' ps, e ≤ 40 → gBook n mo u' c' size most d' (nI u') p' now' (nI u') a' → gVh (fun k j => c' (6 * k + j)) n mo h' → X (nI u') d' (changes + nI e) c' p' (changes + nI e) h' m (nI u') a' hs now' ps) : p_X10_drift known size most draw changes cells past seen h a1 (fun r1 y2 y3 y4 y5 y6 y7 y8 => p_X11_drift many undos ahead holds now points a1 (fun r9 y10 y11 y12 y13 y14 y15 => r1 = r9 ∧ X y2 y3 y4 y5 y6 y7 y8 y10 y11 y12 y13 y14 y15)) := by
  have hu := hB.2.1
  have hkn := hB.2.2.1
  have hun := hB.2.2.2.1
  obtain ⟨hn, -, hmo, hsz, hme, -⟩ := id hB.1
  subst hsz hme
  unfold p_X10_drift
  by_cases hc : ∃ c, 1 ≤ c ∧ c ≤ 40 ∧ a1 = nI c
  · have hc' := (gm_rng (by decide) (by decide)).mp hc
    obtain ⟨m, m1, m40, rfl⟩ := hc
    refine s_out_in hc' ⟨fun _ => ?_, g00⟩
    refine gi6_inv m (fun i a b c d f g => a = nI i ∧ ∃ u' e d', u' ≤ 8 ∧ b = nI u' ∧ c = nI d' ∧ d' < 2147483648 ∧ d = changes + nI e ∧ e ≤ i ∧ (e = 0 → f = cells) ∧ (n = 0 → e = 0) ∧ (∃ now1 ah1, gBook n mo u' f (nI n) (nI mo) c b g now1 b ah1) ∧ ∀ QQ : Int32 → Int32 → Int32 → (Nat → Int32) → (Nat → Int32) → (Nat → Int32) → (Nat → Int32) → Prop, (∀ un' ah' now', gBook n mo u' f (nI n) (nI mo) c b g now' un' ah' → gi4 (p_X11_drift_17 many holds points (nI m) QQ) (m + 1 - i) (nI i) un' ah' now') → ∃ k, gi4 (p_X11_drift_17 many holds points (nI m) QQ) k (0 : Int32) undos ahead now) ?_ ?_ ?_
    · rintro i hi X a b c d f g ⟨rfl, u', e, d', k1, rfl, rfl, k2, rfl, k3, k4, k5, ⟨now1, ah1, hB1⟩, k6⟩ hX
      unfold p_X10_drift_15
      refine ⟨fun z => ?_, fun _ => s_X0_keep k1 rfl (fun v s past' hs p1 p2 p3 p4 p5 => ?_)⟩
      · rw [nI_leI (by omega) (by omega)] at z; omega
      · have hnext : nI i + (1 : Int32) = nI (i + 1) := nI_add i 1
        rw [hnext]
        have hle := gSlot_le hs
        have hd' := gdr_lt d'
        have step : ∀ cn, (∀ (now' : Nat → Int32), gSnap n mo f (nI n) (nI mo) (nI d') now' → ∀ now2, (n = 0 → now2 = upd now' 2 (nI (gdr d'))) → (0 < n → now2 = upd (upd now' 2 (nI (gdr d'))) (3 + 6 * gdk n (gdr d') + gdj (gdr d')) (gdv (gdr d'))) → gSnap n mo cn (nI n) (nI mo) (nI (gdr d')) now2) → (∃ now1 ah1, gBook n mo (v + 1) cn (nI n) (nI mo) (nI (gdr d')) (nI (v + 1)) past' now1 (nI (v + 1)) ah1) ∧ ∀ QQ : Int32 → Int32 → Int32 → (Nat → Int32) → (Nat → Int32) → (Nat → Int32) → (Nat → Int32) → Prop, (∀ un' ah' now', gBook n mo (v + 1) cn (nI n) (nI mo) (nI (gdr d')) (nI (v + 1)) past' now' un' ah' → gi4 (p_X11_drift_17 many holds points (nI m) QQ) (m + 1 - (i + 1)) (nI (i + 1)) un' ah' now') → ∃ k, gi4 (p_X11_drift_17 many holds points (nI m) QQ) k (0 : Int32) undos ahead now := by
          intro cn hcn
          constructor
          · obtain ⟨hS1, -, -, -, hP1⟩ := hB1
            have hS2 := hcn now1 hS1 (if n = 0 then upd now1 2 (nI (gdr d')) else upd (upd now1 2 (nI (gdr d'))) (3 + 6 * gdk n (gdr d') + gdj (gdr d')) (gdv (gdr d'))) (fun z => if_pos z) (fun z => if_neg (by omega))
            refine ⟨_, fun q => if q < 51 * v then ah1 (q + 51 * s) else now1 (q - 51 * v), hS2, by omega, rfl, rfl, gPast_keep hs hP1 hS1 p1 p2 p3 p4 p5 (fun i hi q hq => ?_) (fun q hq => ?_)⟩
            · show (if 51 * i + q < 51 * v then _ else _) = _
              rw [if_pos (by omega)]
              congr 1
              omega
            · show (if 51 * v + q < 51 * v then _ else _) = _
              rw [if_neg (by omega)]
              congr 1
              omega
          · intro QQ hQQ
            refine k6 QQ (fun un' ah' now' hB' => ?_)
            obtain ⟨hS', -, -, hun', hP'⟩ := hB'
            have : m + 1 - i = (m + 1 - (i + 1)) + 1 := by omega
            rw [this]
            show p_X11_drift_17 many holds points (nI m) QQ (gi4 (p_X11_drift_17 many holds points (nI m) QQ) (m + 1 - (i + 1))) (nI i) un' ah' now'
            refine s_X11_drift_step hS' k2 k1 hun' hi m40 (fun v' s' a' hs' w1 w2 now2 t1 t2 => ?_)
            obtain ⟨rfl, rfl⟩ := gSlot_fun hs hs'
            exact hQQ _ _ _ ⟨hcn now' hS' now2 t1 t2, by omega, rfl, rfl, gPast_keep hs hP' hS' p1 p2 p3 p4 p5 w1 w2⟩
        refine s_X9_driftOnce hn (fun z => ?_) (fun z => ?_)
        · obtain ⟨s1, s2⟩ := step f (fun now' hS' now2 t1 _ => by rw [t1 z]; exact gSnap_draw hS' hd')
          exact hX _ _ _ _ _ _ ⟨rfl, v + 1, e, gdr d', by omega, rfl, rfl, hd', rfl, by omega, k4, k5, s1, s2⟩
        · obtain ⟨s1, s2⟩ := step _ (fun now' hS' now2 _ t2 => by rw [t2 z]; exact gSnap_drift hS' hd' z)
          exact hX _ _ _ _ _ _ ⟨rfl, v + 1, e + 1, gdr d', by omega, rfl, rfl, hd', by rw [Int32.add_assoc, gl_1, nI_add], by omega, fun y => by omega, fun y => by omega, s1, s2⟩
    · rintro X a b c d f g ⟨rfl, u', e, d', k1, rfl, rfl, k2, rfl, k3, k4, k5, ⟨now1, ah1, hB1⟩, k6⟩
      unfold p_X10_drift_15
      refine ⟨fun _ => ?_, fun z => absurd (by rw [nI_leI (by omega) (by omega)]; exact Nat.le_refl _) z⟩
      have hv' : seen = changes + nI e → gVh (fun k j => f (6 * k + j)) n mo h := by
        intro z
        by_cases e0 : e = 0
        · rw [k4 e0]
          refine hv ?_
          rw [z, e0, nI_0, Int32.add_zero]
        · exact absurd z (hne e (by omega) (by omega))
      refine s_X5_pointCount hn hmo hv' (fun h' hh => ?_)
      unfold p_X11_drift
      refine s_in_in (by rw [gm_l]; exact hc') ⟨g10, fun _ => k6 _ (fun un' ah' now' hB' => ?_)⟩
      have : m + 1 - m = 0 + 1 := by omega
      rw [this]
      show p_X11_drift_17 many holds points (nI m) _ _ (nI m) un' ah' now'
      unfold p_X11_drift_17
      obtain ⟨hS', -, -, hun', hP'⟩ := id hB'
      have hF := gfull_fn hS'
      obtain ⟨-, -, -, -, -, w0, w1, -⟩ := id hS'
      subst hun'
      refine ⟨fun _ => s_X11_pointsNow w0 w1 hn hmo (fun mm hs ps => ⟨by rw [hF], hX1 _ _ _ _ _ _ _ _ _ _ _ (by omega) hB' hh⟩), fun z => absurd (by rw [nI_leI (by omega) (by omega)]; exact Nat.le_refl _) z⟩
    · have hdr := hB.1.2.2.2.2.2.2.2.2.1
      have hdl := Int32.toInt_lt draw
      have hde : draw = nI draw.toInt.toNat := by
        apply Int32.toInt_inj.mp
        rw [nI_toInt (by omega)]
        omega
      refine ⟨rfl, u, 0, draw.toInt.toNat, hu, hkn, hde, by omega, by rw [nI_0, Int32.add_zero], Nat.le_refl _, fun _ => rfl, fun _ => rfl, ⟨now, ahead, ?_⟩, fun QQ hQQ => ⟨_, hQQ undos ahead now hB⟩⟩
      rw [hkn]
      rw [hkn, hun] at hB
      exact hB
  · have hc' := fun z => hc ((gm_rng (by decide) (by decide)).mpr z)
    refine s_out_out hc' ⟨g10, fun _ => ?_⟩
    unfold p_X11_drift
    exact s_in_out (by rw [gm_l]; exact hc') ⟨fun _ => ⟨rfl, hX0⟩, g00⟩
