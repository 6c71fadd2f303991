/-! deep -/
theorem s_sh134 {sh : Nat → Int32} {p : Nat} {s2 s3 : Int32} {K : Int32 → (Nat → Int32) → Prop} (hp : p < 4096) (h : ∀ sh', sh' p = s2 ||| s3 → (∀ q, q ≠ p → sh' q = sh q) → K (nI (p + 1)) sh') : p_X11_shadesOf_134 sh (nI p) (nI p) s2 s3 K := by
  have en : nI p + (1 : Int32) = nI (p + 1) := nI_add p 1
  unfold p_X11_shadesOf_134
  rw [nI_clamp (by omega), en]
  exact ⟨vp_in_nI hp (by decide), h _ pk_us (fun q hq => pk_un hq)⟩
theorem s_bI {b : Bool} {P Q : Prop} (h1 : b = true → Q) (h0 : ¬ b = true → P) : ((if b = true then (1 : Int32) else 0) = 0 → P) ∧ (¬ (if b = true then (1 : Int32) else 0) = 0 → Q) := by
  by_cases h : b = true
  · rw [if_pos h]
    exact ⟨g10, fun _ => h1 h⟩
  · rw [if_neg h]
    exact ⟨fun _ => h0 h, g00⟩
theorem s_sh101 {S : List (Nat → Int32)} {rows now sh : Nat → Int32} {mo v s p : Nat} {b : Bool} {s2 s3 : Int32} {K : Int32 → (Nat → Int32) → Prop} (hS : gRw S rows) (hN : S.length ≤ 18) (hmo : mo ≤ 7) (hm1 : now 1 = nI mo) (hv : v < 4) (hs : s < 2) (hp : p < 4096) (hb : b = true → gv p v = 0)
    (h : ∀ sh', sh' p = (s2 ||| s3) ||| (if (b && decide (s = 1) && gtrue S mo v p) = true then 4 else 0) → (∀ q, q ≠ p → sh' q = sh q) → K (nI (p + 1)) sh') : p_X11_shadesOf_101 (nI S.length) now rows sh (nI v) (nI s) (nI p) (if b = true then 1 else 0) (nI p) s2 s3 K := by
  unfold p_X11_shadesOf_101
  rw [nI_clamp (by omega), pk_us]
  have fin : ∀ v2 : Int32, v2 = (if (b && decide (s = 1) && gtrue S mo v p) = true then 4 else 0) → p_X11_shadesOf_134 (upd sh p (s2 ||| s3)) (nI p) (nI p) (s2 ||| s3) v2 K := by
    intro v2 hv2
    refine s_sh134 hp (fun sh' e1 e2 => h sh' (by rw [e1, hv2]) (fun q hq => by rw [e2 q hq, pk_un hq]))
  have f133 : ¬ (b && decide (s = 1) && gtrue S mo v p) = true → p_X11_shadesOf_133 (upd sh p (s2 ||| s3)) (nI p) (nI p) (s2 ||| s3) K := by
    intro z
    unfold p_X11_shadesOf_133
    exact fin 0 (if_neg z).symm
  refine ⟨vp_in_nI hp (by decide), vp_in_nI hp (by decide), s_bI (fun hbt => ?_) (fun hbf => f133 (fun z => ?_))⟩
  · rw [gl_1, nI_eq (by omega) (by decide)]
    refine ⟨fun e => s_X11_isTrue hS hN hmo hm1 hv hp (hb hbt) (fun z => ⟨g10, fun _ => fin 4 (if_pos ?_).symm⟩) (fun z => ⟨fun _ => f133 (fun y => ?_), g00⟩), fun e => f133 (fun y => ?_)⟩
    · rw [hbt, decide_eq_true e, z]; rfl
    · rw [Bool.and_eq_true] at y
      exact z y.2
    · rw [Bool.and_eq_true, Bool.and_eq_true, decide_eq_true_eq] at y
      exact e y.1.2
  · rw [Bool.and_eq_true, Bool.and_eq_true] at z
    exact hbf z.1.1
theorem s_sh73 {S T : List (Nat → Int32)} {rows now sh shadow : Nat → Int32} {mo v s p : Nat} {b : Bool} {s2 : Int32} {K : Int32 → (Nat → Int32) → Prop} (hS : gRw S rows) (hN : S.length ≤ 18) (hT : gRw T shadow) (lT : T.length ≤ 81) (hmo : mo ≤ 7) (hm1 : now 1 = nI mo) (hv : v < 4) (hs : s < 2) (hp : p < 4096) (hb : b = true → gv p v = 0)
    (h : ∀ sh', sh' p = (s2 ||| (if (b && gin T p) = true then (1 : Int32) <<< (nI s &&& 31) else 0)) ||| (if (b && decide (s = 1) && gtrue S mo v p) = true then 4 else 0) → (∀ q, q ≠ p → sh' q = sh q) → K (nI (p + 1)) sh') : p_X11_shadesOf_73 (nI S.length) (nI T.length) now rows sh shadow (nI v) (nI s) (nI p) (if b = true then 1 else 0) (nI p) s2 K := by
  unfold p_X11_shadesOf_73
  rw [nI_clamp (by omega), pk_us]
  have f101 : ∀ s3 : Int32, s3 = (if (b && gin T p) = true then (1 : Int32) <<< (nI s &&& 31) else 0) → p_X11_shadesOf_101 (nI S.length) now rows (upd sh p s2) (nI v) (nI s) (nI p) (if b = true then 1 else 0) (nI p) s2 s3 K := by
    intro s3 hs3
    refine s_sh101 hS hN hmo hm1 hv hs hp hb (fun sh' e1 e2 => h sh' (by rw [e1, hs3]) (fun q hq => by rw [e2 q hq, pk_un hq]))
  have f100 : ¬ (b && gin T p) = true → p_X11_shadesOf_100 (nI S.length) now rows (upd sh p s2) (nI v) (nI s) (nI p) (if b = true then 1 else 0) (nI p) s2 K := by
    intro z
    unfold p_X11_shadesOf_100
    exact f101 0 (if_neg z).symm
  refine ⟨vp_in_nI hp (by decide), vp_in_nI hp (by decide), s_bI (fun hbt => s_X11_isIn hT (by omega) hp (fun z => ⟨g10, fun _ => f101 _ (if_pos ?_).symm⟩) (fun z => ⟨fun _ => f100 (fun y => ?_), g00⟩)) (fun hbf => f100 (fun y => ?_))⟩
  · rw [hbt, z]; rfl
  · rw [Bool.and_eq_true] at y
    exact z y.2
  · rw [Bool.and_eq_true] at y
    exact hbf y.1
theorem s_sh52 {S T : List (Nat → Int32)} {rows now sh shadow : Nat → Int32} {mo v s p : Nat} {b : Bool} {K : Int32 → (Nat → Int32) → Prop} (hS : gRw S rows) (hN : S.length ≤ 18) (hT : gRw T shadow) (lT : T.length ≤ 81) (hmo : mo ≤ 7) (hm1 : now 1 = nI mo) (hv : v < 4) (hs : s < 2) (hp : p < 4096) (hb : b = true → gv p v = 0)
    (h : ∀ sh', sh' p = ((if s = 0 then 0 else sh p) ||| (if (b && gin T p) = true then (1 : Int32) <<< (nI s &&& 31) else 0)) ||| (if (b && decide (s = 1) && gtrue S mo v p) = true then 4 else 0) → (∀ q, q ≠ p → sh' q = sh q) → K (nI (p + 1)) sh') : p_X11_shadesOf_52 (nI S.length) (nI T.length) now rows sh shadow (nI v) (nI s) (nI p) (if b = true then 1 else 0) K := by
  unfold p_X11_shadesOf_52
  rw [nI_clamp (by omega), gl_0, nI_eq (by omega) (by decide)]
  rw [← gl_0]
  refine ⟨fun e => ?_, fun e => ⟨vp_in_nI hp (by decide), ?_⟩⟩
  · rw [if_pos e] at h
    exact s_sh73 hS hN hT lT hmo hm1 hv hs hp hb h
  · rw [if_neg e] at h
    exact s_sh73 hS hN hT lT hmo hm1 hv hs hp hb h
def gpk (r d t : Bool) : Nat := (if r = true then 1 else 0) + (if d = true then 2 else 0) + (if t = true then 4 else 0)
theorem gpk_0 : ∀ r : Bool, ((0 : Int32) ||| (if r = true then (1 : Int32) <<< (nI 0 &&& 31) else 0)) ||| 0 = nI (gpk r false false) := by decide
theorem gpk_1 : ∀ r d t : Bool, (nI (gpk r false false) ||| (if d = true then (1 : Int32) <<< (nI 1 &&& 31) else 0)) ||| (if t = true then 4 else 0) = nI (gpk r d t) := by decide
theorem gpk_A (x : Int32) (B b t : Bool) : ((if (0 : Nat) = 0 then 0 else x) ||| (if B = true then (1 : Int32) <<< (nI 0 &&& 31) else 0)) ||| (if (b && decide ((0 : Nat) = 1) && t) = true then 4 else 0) = nI (gpk B false false) := by
  have hz : (b && decide ((0 : Nat) = 1) && t) = false := by cases b <;> rfl
  rw [if_pos rfl, hz, if_neg Bool.false_ne_true]
  exact gpk_0 _
theorem gpk_B : ∀ r B b t : Bool, ((if (1 : Nat) = 0 then 0 else nI (gpk r false false)) ||| (if B = true then (1 : Int32) <<< (nI 1 &&& 31) else 0)) ||| (if (b && decide ((1 : Nat) = 1) && t) = true then 4 else 0) = nI (gpk r B (b && t)) := by decide
theorem gpk_b : ∀ r d t : Bool, ((nI (gpk r d t) &&& (1 : Int32) = 1) ↔ r = true) ∧ ((nI (gpk r d t) &&& (2 : Int32) = 2) ↔ d = true) ∧ ((nI (gpk r d t) &&& (4 : Int32) = 4) ↔ t = true) := by decide
def gbR (S T : List (Nat → Int32)) (mo v p : Nat) : Bool := gbase mo v p && gin T p
def gbT (S : List (Nat → Int32)) (mo v p : Nat) : Bool := gbase mo v p && gtrue S mo v p
theorem s_shades {C : Nat → Nat → Int32} {n v mo : Nat} {rm sm : Int32} {rows shadow shades now : Nat → Int32} {Q : Int32 → Int32 → (Nat → Int32) → (Nat → Int32) → (Nat → Int32) → Prop} (hn : n ≤ 8) (hv : v < 4) (hmo : mo ≤ 7) (h0 : now 0 = nI n) (h1 : now 1 = nI mo) (hC : ∀ k, k < n → ∀ j, j < 6 → C k j = now (3 + 6 * k + j)) (hB : ∀ k, k < n → ∀ j, j < 5 → gB (C k j) 99)
    (hQ : ∀ y1 y2 y3 sh y5, (∀ p, p < 4096 → sh p = nI (gpk (gbase mo v p && gin (gshd (gsrc C n v mo) v false) p) (gbase mo v p && gin (gshd (gsrc C n v mo) v true) p) (gbase mo v p && gtrue (gsrc C n v mo) mo v p))) → Q y1 y2 y3 sh y5) : p_X11_shadesOf rm sm now rows shades shadow (nI v) Q := by
  have hN := gsrc_len C v mo hn
  have lT : ∀ dark, (gshd (gsrc C n v mo) v dark).length ≤ 81 := fun dark => gshd_len hN
  unfold p_X11_shadesOf
  refine gi6_inv 2 (fun s a b c d e f => a = nI s ∧ (s = 1 → ∀ p, p < 4096 → e p = nI (gpk (gbase mo v p && gin (gshd (gsrc C n v mo) v false) p) false false)) ∧ (s = 2 → ∀ p, p < 4096 → e p = nI (gpk (gbase mo v p && gin (gshd (gsrc C n v mo) v false) p) (gbase mo v p && gin (gshd (gsrc C n v mo) v true) p) (gbase mo v p && gtrue (gsrc C n v mo) mo v p)))) ?_ ?_ ⟨rfl, fun z => absurd z (by decide), fun z => absurd z (by decide)⟩
  · rintro s hs X a b c d e f ⟨rfl, he, -⟩ hX
    have go : ∀ (dark : Bool) (xd : Int32), dark = decide (s = 1) → xd = (if dark = true then 1 else 0) → p_X11_shadesOf_19 b c now d e f (nI v) (nI s) (nI v) xd X := by
      intro dark xd hdk hxd
      unfold p_X11_shadesOf_19
      refine s_X11_shadowOf (C := C) (dark := dark) hn hv hmo h0 h1 hC hB hxd (fun rows' shadow' hS hT => ?_)
      refine gi2_inv 4096 (fun p a e' => a = nI p ∧ (∀ q, q < p → e' q = if s = 0 then nI (gpk (gbase mo v q && gin (gshd (gsrc C n v mo) v false) q) false false) else nI (gpk (gbase mo v q && gin (gshd (gsrc C n v mo) v false) q) (gbase mo v q && gin (gshd (gsrc C n v mo) v true) q) (gbase mo v q && gtrue (gsrc C n v mo) mo v q))) ∧ ∀ q, p ≤ q → e' q = e q) ?_ ?_ ⟨rfl, fun q hq => absurd hq (Nat.not_lt_zero q), fun _ _ => rfl⟩
      · rintro p hp Y a e' ⟨rfl, e1, e2⟩ hY
        have step : ∀ bb : Bool, bb = gbase mo v p → p_X11_shadesOf_52 (nI (gsrc C n v mo).length) (nI (gshd (gsrc C n v mo) v dark).length) now rows' e' shadow' (nI v) (nI s) (nI p) (if bb = true then 1 else 0) Y := by
          intro bb hbb
          refine s_sh52 hS hN hT (lT dark) hmo h1 hv hs hp (fun z => ?_) (fun sh' g1 g2 => hY _ _ ⟨rfl, fun q hq => ?_, fun q hq => ?_⟩)
          · rw [hbb] at z
            unfold gbase at z
            rw [Bool.and_eq_true, decide_eq_true_eq] at z
            exact z.1
          · by_cases eq : q = p
            · subst eq
              rw [g1, hbb]
              rcases (show s = 0 ∨ s = 1 by omega) with rfl | rfl
              · have hdk' : dark = false := hdk
                rw [hdk']
                exact (gpk_A _ _ _ _).trans (if_pos rfl).symm
              · have hdk' : dark = true := hdk
                rw [hdk', e2 q (Nat.le_refl _), he rfl q hp]
                exact (gpk_B _ _ _ _).trans (if_neg (by decide)).symm
            · rw [g2 q eq]
              exact e1 q (by omega)
          · rw [g2 q (by omega)]
            exact e2 q (by omega)
        have off : gbase mo v p = false → p_X11_shadesOf_51 (nI (gsrc C n v mo).length) (nI (gshd (gsrc C n v mo) v dark).length) now rows' e' shadow' (nI v) (nI s) (nI p) Y := by
          intro z
          unfold p_X11_shadesOf_51
          exact step false z.symm
        have hgv := gv_lt p v
        unfold p_X11_shadesOf_24
        refine ⟨fun g => ?_, fun _ => s_X11_valueOf hp hv rfl ?_⟩
        · rw [gl_4096, nI_leI (by decide) (by omega)] at g; omega
        · rw [gl_0, nI_eq (by omega) (by decide)]
          rw [← gl_0]
          refine ⟨fun gz => s_X11_isBoxed h1 hmo hp (s_bI (fun hb => step true ?_) (fun hb => off ?_)), fun gz => off ?_⟩
          · unfold gbase
            rw [hb, decide_eq_true gz]
            rfl
          · unfold gbase
            rw [Bool.not_eq_true] at hb
            rw [hb, Bool.and_false]
          · unfold gbase
            rw [decide_eq_false gz, Bool.false_and]
      · rintro Y a e' ⟨rfl, e1, e2⟩
        have en : nI s + (1 : Int32) = nI (s + 1) := nI_add s 1
        unfold p_X11_shadesOf_24
        rw [en]
        refine ⟨fun _ => hX _ _ _ _ _ _ ⟨rfl, fun z p hp => ?_, fun z p hp => ?_⟩, fun g => absurd (by decide) g⟩
        · rw [e1 p hp, if_pos (by omega)]
        · rw [e1 p hp, if_neg (by omega)]
    unfold p_X11_shadesOf_2
    rw [gl_2, gl_1, nI_leI (by decide) (by omega), nI_eq (by omega) (by decide)]
    rw [← gl_1]
    refine ⟨fun z => by omega, fun _ => ⟨fun z => go true _ (decide_eq_true z).symm rfl, fun z => go false _ (decide_eq_false z).symm rfl⟩⟩
  · rintro X a b c d e f ⟨rfl, -, he⟩
    unfold p_X11_shadesOf_2
    exact ⟨fun _ => hQ _ _ _ _ _ (he rfl), fun g => absurd (by decide) g⟩
def gcw (w : Nat) (r d t : Bool) : Bool := if w = 0 then r else if w = 1 then d else if w = 2 then t else if w = 3 then r && !d else (r && !d) && t
theorem s_deep115 {w : Nat} {x3 x4 : Int32} {r d t g : Bool} {K : Int32 → Int32 → Prop} (hw : w < 5) (h : K (x3 + (if (if w = 0 then r else if w = 1 then d else if w = 2 then t else if w = 3 then g else g && t) = true then 1 else 0)) (x4 + 1)) : p_X11_deep_115 (nI w) x3 x4 (if r = true then 1 else 0) (if d = true then 1 else 0) (if t = true then 1 else 0) (if g = true then 1 else 0) K := by
  unfold p_X11_deep_115 p_X11_deep_179 p_X11_deep_183 p_X11_deep_184
  have e0 : (nI w = (0 : Int32)) ↔ w = 0 := by rw [gl_0, nI_eq (by omega) (by decide)]
  have e1 : (nI w = (1 : Int32)) ↔ w = 1 := by rw [gl_1, nI_eq (by omega) (by decide)]
  have e2 : (nI w = (2 : Int32)) ↔ w = 2 := by rw [gl_2, nI_eq (by omega) (by decide)]
  have e3 : (nI w = (3 : Int32)) ↔ w = 3 := by rw [gl_3, nI_eq (by omega) (by decide)]
  rw [e0, e1, e2, e3]
  have yn : ∀ b : Bool, K (x3 + (if b = true then 1 else 0)) (x4 + 1) → ((if b = true then (1 : Int32) else 0) = 0 → K (x3 + 0) (x4 + 1)) ∧ (¬ (if b = true then (1 : Int32) else 0) = 0 → K (x3 + 1) (x4 + 1)) := by
    intro b hb
    refine s_bI (fun z => ?_) (fun z => ?_)
    · rw [if_pos z] at hb; exact hb
    · rw [if_neg z] at hb; exact hb
  refine ⟨fun z => ?_, fun z0 => ⟨fun z => ?_, fun z1 => ⟨fun z => ?_, fun z2 => ⟨fun z => ?_, fun z3 => ?_⟩⟩⟩⟩
  · rw [if_pos z] at h; exact yn r h
  · rw [if_neg z0, if_pos z] at h; exact yn d h
  · rw [if_neg z0, if_neg z1, if_pos z] at h; exact yn t h
  · rw [if_neg z0, if_neg z1, if_neg z2, if_pos z] at h; exact yn g h
  · rw [if_neg z0, if_neg z1, if_neg z2, if_neg z3] at h
    refine s_bI (fun z => yn t ?_) (fun z => ?_)
    · rw [z, Bool.true_and] at h; exact h
    · rw [Bool.not_eq_true] at z
      rw [z, Bool.false_and] at h
      exact h
theorem s_deep32 {w p : Nat} {x3 : Int32} {shades : Nat → Int32} {r d t : Bool} {K : Int32 → Int32 → Prop} (hw : w < 5) (hp : p < 4096) (hs : shades p = nI (gpk r d t)) (h : K (x3 + (if gcw w r d t = true then 1 else 0)) (nI (p + 1))) : vp_in (nI p) 4096 ∧ (((shades (nI p).toNatClampNeg &&& (1 : Int32)) = (1 : Int32) → p_X11_deep_58 shades (nI w) x3 (nI p) (1 : Int32) K) ∧ (¬ (shades (nI p).toNatClampNeg &&& (1 : Int32)) = (1 : Int32) → p_X11_deep_58 shades (nI w) x3 (nI p) (0 : Int32) K)) := by
  have en : nI p + (1 : Int32) = nI (p + 1) := nI_add p 1
  obtain ⟨b1, b2, b4⟩ := gpk_b r d t
  rw [← en] at h
  unfold gcw at h
  have f98 : p_X11_deep_98 (nI w) x3 (nI p) (if r = true then 1 else 0) (if d = true then 1 else 0) (if t = true then 1 else 0) K := by
    unfold p_X11_deep_98 p_X11_deep_114
    refine s_bI (fun zr => s_bI (fun zd => ?_) (fun zd => ?_)) (fun zr => ?_)
    · refine s_deep115 (g := false) hw ?_
      rw [zr, zd] at h
      rw [zr, zd]
      exact h
    · refine s_deep115 (g := true) hw ?_
      rw [Bool.not_eq_true] at zd
      rw [zr, zd] at h
      rw [zr, zd]
      exact h
    · refine s_deep115 (g := false) hw ?_
      rw [Bool.not_eq_true] at zr
      rw [zr, Bool.false_and] at h
      rw [zr]
      exact h
  have f78 : p_X11_deep_78 shades (nI w) x3 (nI p) (if r = true then 1 else 0) (if d = true then 1 else 0) K := by
    unfold p_X11_deep_78
    rw [nI_clamp (by omega), hs, b4]
    refine ⟨vp_in_nI hp (by decide), fun z => ?_, fun z => ?_⟩
    · rw [if_pos z] at f98; exact f98
    · rw [if_neg z] at f98; exact f98
  have f58 : p_X11_deep_58 shades (nI w) x3 (nI p) (if r = true then 1 else 0) K := by
    unfold p_X11_deep_58
    rw [nI_clamp (by omega), hs, b2]
    refine ⟨vp_in_nI hp (by decide), fun z => ?_, fun z => ?_⟩
    · rw [if_pos z] at f78; exact f78
    · rw [if_neg z] at f78; exact f78
  rw [nI_clamp (by omega), hs, b1]
  refine ⟨vp_in_nI hp (by decide), fun z => ?_, fun z => ?_⟩
  · rw [if_pos z] at f58; exact f58
  · rw [if_neg z] at f58; exact f58
theorem gcw_eq (w : Nat) (b r d t : Bool) : gcw w (b && r) (b && d) (b && t) = (b && (if w = 0 then r else if w = 1 then d else if w = 2 then t else if w = 3 then r && !d else (r && !d) && t)) := by
  unfold gcw
  cases b
  · simp
  · simp
theorem o_deep {n mo : Nat} {cells now dc rc sc rows shadow shades : Nat → Int32} {size most draw ds rs ss rm sm a1 a2 : Int32} {X : Int32 → (Nat → Int32) → Int32 → (Nat → Int32) → Int32 → (Nat → Int32) → Int32 → Int32 → (Nat → Int32) → (Nat → Int32) → (Nat → Int32) → Prop} (hS : gSnap n mo cells size most draw now) (hX : ∀ y1 y2 y3 y4 y5 y6 y7 y8 y9 y10 y11, X y1 y2 y3 y4 y5 y6 y7 y8 y9 y10 y11) : p_X10_deep 405 405 90 size most cells ds dc rs rc ss sc a1 a2 (fun r1 y2 y3 y4 y5 y6 y7 => p_X11_deep rm sm now rows shades shadow a1 a2 (fun r8 y9 y10 y11 y12 y13 => r1 = r8 ∧ X y2 y3 y4 y5 y6 y7 y9 y10 y11 y12 y13)) := by
  obtain ⟨hn, -, hm, rfl, rfl, h0, h1, -, -, hc, hR⟩ := hS
  have hC1 : ∀ k, k < n → ∀ j, j < 6 → gC6 cells k j = cells (6 * k + j) := fun k hk j hj => if_pos hj
  have hC2 : ∀ k, k < n → ∀ j, j < 6 → gC6 cells k j = now (3 + 6 * k + j) := fun k hk j hj => by rw [hC1 k hk j hj]; exact hc k hk j hj
  have hB := gC6_B hR
  unfold p_X10_deep p_X10_isNoVariable
  by_cases hv : ∃ v, v < 4 ∧ a1 = nI v
  · obtain ⟨v, hv, rfl⟩ := hv
    refine s_oR_in hv (by decide) rfl ⟨rfl, ⟨fun _ => ?_, g00⟩⟩
    by_cases hw : ∃ w, w < 5 ∧ a2 = nI w
    · obtain ⟨w, hw, rfl⟩ := hw
      refine s_oR_in hw (by decide) rfl ⟨fun _ => s_X6_depth hn hv hm hw hC1 hB (fun y4 y5 y6 y7 y8 y9 => ?_), g00⟩
      unfold p_X11_deep p_X11_isVariable
      refine s_iR_in hv (by decide) (by decide) ⟨rfl, ⟨g10, fun _ => s_iR_in hw (by decide) (by decide) ⟨g10, fun _ => s_shades hn hv hm h0 h1 hC2 hB (fun z1 z2 z3 sh z5 hsh => ?_)⟩⟩⟩
      refine gi2_inv 4096 (fun q a b => b = nI q ∧ a = nI (gcnt (fun p => gbase mo v p && gcn (gshd (gsrc (gC6 cells) n v mo) v false) (gshd (gsrc (gC6 cells) n v mo) v true) (gsrc (gC6 cells) n v mo) mo v w p) q)) ?_ ?_ ⟨rfl, rfl⟩
      · rintro q hq Y a b ⟨rfl, rfl⟩ hY
        unfold p_X11_deep_32
        refine ⟨fun g => ?_, fun _ => s_deep32 hw hq (hsh q hq) (hY _ _ ⟨rfl, ?_⟩)⟩
        · rw [gl_4096, nI_leI (by decide) (by omega)] at g; omega
        · have hg : gcw w (gbase mo v q && gin (gshd (gsrc (gC6 cells) n v mo) v false) q) (gbase mo v q && gin (gshd (gsrc (gC6 cells) n v mo) v true) q) (gbase mo v q && gtrue (gsrc (gC6 cells) n v mo) mo v q) = (gbase mo v q && gcn (gshd (gsrc (gC6 cells) n v mo) v false) (gshd (gsrc (gC6 cells) n v mo) v true) (gsrc (gC6 cells) n v mo) mo v w q) := gcw_eq w _ _ _ _
          rw [hg]
          by_cases hb : (gbase mo v q && gcn (gshd (gsrc (gC6 cells) n v mo) v false) (gshd (gsrc (gC6 cells) n v mo) v true) (gsrc (gC6 cells) n v mo) mo v w q) = true
          · rw [if_pos hb, gcnt_s (f := fun p => gbase mo v p && gcn (gshd (gsrc (gC6 cells) n v mo) v false) (gshd (gsrc (gC6 cells) n v mo) v true) (gsrc (gC6 cells) n v mo) mo v w p) hb]
            exact nI_add _ 1
          · rw [if_neg hb, gcnt_n (f := fun p => gbase mo v p && gcn (gshd (gsrc (gC6 cells) n v mo) v false) (gshd (gsrc (gC6 cells) n v mo) v true) (gsrc (gC6 cells) n v mo) mo v w p) hb]
            exact Int32.add_zero _
      · rintro Y a b ⟨rfl, rfl⟩
        unfold p_X11_deep_32
        exact ⟨fun _ => ⟨rfl, hX _ _ _ _ _ _ _ _ _ _ _⟩, fun g => absurd (by decide) g⟩
    · refine s_oR_out hw (by decide) (by decide) rfl ⟨g10, fun _ => ?_⟩
      unfold p_X11_deep p_X11_isVariable
      exact s_iR_in hv (by decide) (by decide) ⟨rfl, ⟨g10, fun _ => s_iR_out hw (by decide) (by decide) ⟨fun _ => ⟨rfl, hX _ _ _ _ _ _ _ _ _ _ _⟩, g00⟩⟩⟩
  · refine s_oR_out hv (by decide) (by decide) rfl ⟨rfl, ⟨g10, fun _ => ?_⟩⟩
    unfold p_X11_deep p_X11_isVariable
    exact s_iR_out hv (by decide) (by decide) ⟨rfl, ⟨fun _ => ⟨rfl, hX _ _ _ _ _ _ _ _ _ _ _⟩, g00⟩⟩
