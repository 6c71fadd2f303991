/-! shadows: the model -/
theorem s_X11_rowOf {k : Nat} {t : Int32} {S : List (Nat → Int32)} {c now x : Nat → Int32} {Q : Int32 → (Nat → Int32) → Prop} (hS : gRw S c) (hm : 5 * S.length + 5 ≤ 90) (hk : k < 8) (hx : ∀ j, j < 5 → x j = t * now (3 + 6 * k + j)) (hQ : ∀ c', gRw (S ++ [x]) c' → Q (nI (S ++ [x]).length) c') : p_X11_rowOf (nI S.length) now c (nI k) t Q := by
  unfold p_X11_rowOf
  refine gi2_inv 5 (fun i a e => a = nI i ∧ (∀ j, j < i → e (5 * S.length + j) = x j) ∧ ∀ q, q < 5 * S.length → e q = c q) ?_ ?_ ⟨rfl, fun j hj => absurd hj (Nat.not_lt_zero j), fun _ _ => rfl⟩
  · rintro i hi X a e ⟨rfl, e1, e2⟩ hX
    unfold p_X11_rowOf_2
    refine ⟨fun g => ?_, fun _ => ⟨gx_in _ (gx_m6j k i) (by omega) (by decide), gx_in _ (gx_5m _ i) (by omega) (by omega), ?_⟩⟩
    · rw [gl_5, nI_leI (by decide) (by omega)] at g; omega
    · rw [gx_cl _ (gx_m6j k i) (by omega), gx_cl _ (gx_5m _ i) (by omega)]
      refine hX _ _ ⟨by rw [gl_1, nI_add], fun j hj => ?_, fun q hq => ?_⟩
      · by_cases ej : j = i
        · subst ej; rw [pk_us, hx j hi]
        · rw [pk_un (by omega)]; exact e1 j (by omega)
      · rw [pk_un (by omega)]; exact e2 q hq
  · rintro X a e ⟨rfl, e1, e2⟩
    unfold p_X11_rowOf_2
    rw [gRw_len x]
    exact ⟨fun _ => hQ e (gRw_app hS e2 e1), fun g => absurd (by decide) g⟩
theorem s_X11_bound {v : Nat} {f rest : Int32} {S : List (Nat → Int32)} {c : Nat → Int32} {Q : Int32 → (Nat → Int32) → Prop} (hS : gRw S c) (hm : 5 * S.length + 5 ≤ 90) (hv : v < 4) (hQ : ∀ c', gRw (S ++ [gbnd v f rest]) c' → Q (nI (S ++ [gbnd v f rest]).length) c') : p_X11_bound (nI S.length) c (nI v) f rest Q := by
  unfold p_X11_bound
  refine gi2_inv 5 (fun i a e => a = nI i ∧ (∀ j, j < i → e (5 * S.length + j) = gbnd v f rest j) ∧ ∀ q, q < 5 * S.length → e q = c q) ?_ ?_ ⟨rfl, fun j hj => absurd hj (Nat.not_lt_zero j), fun _ _ => rfl⟩
  · rintro i hi X a e ⟨rfl, e1, e2⟩ hX
    unfold p_X11_bound_3 p_X11_bound_43
    refine ⟨fun g => ?_, fun _ => ?_⟩
    · rw [gl_5, nI_leI (by decide) (by omega)] at g; omega
    · have fin : ∀ w : Int32, w = gbnd v f rest i → X (nI i + 1) (upd e (5 * S.length + i) w) := by
        intro w hw
        refine hX _ _ ⟨by rw [gl_1, nI_add], fun j hj => ?_, fun q hq => ?_⟩
        · by_cases ej : j = i
          · subst ej; rw [pk_us, hw]
          · rw [pk_un (by omega)]; exact e1 j (by omega)
        · rw [pk_un (by omega)]; exact e2 q hq
      rw [nI_eq (by omega) (by omega), gx_cl _ (gx_5m _ i) (by omega), gl_4, nI_eq (by omega) (by decide)]
      refine ⟨fun g => ⟨gx_in _ (gx_5m _ i) (by omega) (by omega), fin _ (if_pos g).symm⟩, fun g => ⟨fun g4 => ⟨gx_in _ (gx_5m _ i) (by omega) (by omega), fin _ ?_⟩, fun g4 => ⟨gx_in _ (gx_5m _ i) (by omega) (by omega), fin _ ?_⟩⟩⟩
      · unfold gbnd
        rw [if_neg g, if_pos g4]
      · unfold gbnd
        rw [if_neg g, if_neg g4]
  · rintro X a e ⟨rfl, e1, e2⟩
    unfold p_X11_bound_3
    rw [gRw_len (gbnd v f rest)]
    exact ⟨fun _ => hQ e (gRw_app hS e2 e1), fun g => absurd (by decide) g⟩
theorem s_X11_rowsOf {C : Nat → Nat → Int32} {n v mo : Nat} {sz : Int32} {c now : Nat → Int32} {Q : Int32 → (Nat → Int32) → Prop} (hn : n ≤ 8) (hv : v < 4) (h0 : now 0 = nI n) (h1 : now 1 = nI mo) (hC : ∀ k, k < n → ∀ j, j < 6 → C k j = now (3 + 6 * k + j)) (hQ : ∀ c', gRw (gsrc C n v mo) c' → Q (nI (gsrc C n v mo).length) c') : p_X11_rowsOf sz now c (nI v) Q := by
  unfold p_X11_rowsOf
  refine gi3_inv n (fun i a b e => a = nI i ∧ b = nI (gsr C i).length ∧ gRw (gsr C i) e) ?_ ?_ ⟨rfl, rfl, gRw_nil _⟩
  · rintro i hi X a b e ⟨rfl, rfl, he⟩ hX
    have hl := gsr_len C i
    have hla := gsa_len C i
    have ha : gsa C i = if C i 5 = 0 ∨ C i 5 = 2 then [fun j => 1 * C i j] else [] := rfl
    have hb : gsb C i = if C i 5 = 1 ∨ C i 5 = 2 then [fun j => -1 * C i j] else [] := rfl
    have hs : gsr C (i + 1) = gsr C i ++ gsa C i ++ gsb C i := rfl
    have en : nI i + (1 : Int32) = nI (i + 1) := nI_add i 1
    have h62 : ∀ (T : List (Nat → Int32)) (c1 : Nat → Int32), T = gsr C (i + 1) → gRw T c1 → p_X11_rowsOf_62 (nI T.length) c1 (nI i) X := by
      intro T c1 hT h1
      unfold p_X11_rowsOf_62
      rw [en]
      subst hT
      exact hX _ _ _ ⟨rfl, rfl, h1⟩
    have h46 : ∀ (T : List (Nat → Int32)) (c1 : Nat → Int32), T = gsr C i ++ gsa C i → gRw T c1 → p_X11_rowsOf_46 (nI T.length) now c1 (nI i) (C i 5) X := by
      intro T c1 hT h1
      have hTl : T.length ≤ 2 * i + 1 := by rw [hT, List.length_append]; omega
      have put : (C i 5 = 1 ∨ C i 5 = 2) → p_X11_rowsOf_56 (nI T.length) now c1 (nI i) X := by
        intro z
        unfold p_X11_rowsOf_56
        refine s_X11_rowOf (x := fun j => -1 * C i j) h1 (by omega) (by omega) (fun j hj => by show -1 * C i j = _; rw [hC i hi j (by omega)]) (fun c2 h2 => h62 _ c2 ?_ h2)
        rw [hs, hb, if_pos z, hT]
      unfold p_X11_rowsOf_46
      refine ⟨fun z => put (Or.inl z), fun z1 => ⟨fun z => put (Or.inr z), fun z2 => h62 T c1 ?_ h1⟩⟩
      rw [hs, hb, if_neg (fun z => z.elim z1 z2), hT, List.append_nil]
    have put1 : (C i 5 = 0 ∨ C i 5 = 2) → p_X11_rowsOf_40 (nI (gsr C i).length) now e (nI i) (C i 5) X := by
      intro z
      unfold p_X11_rowsOf_40
      refine s_X11_rowOf (x := fun j => 1 * C i j) he (by omega) (by omega) (fun j hj => by show 1 * C i j = _; rw [hC i hi j (by omega)]) (fun c2 h2 => h46 _ c2 ?_ h2)
      rw [ha, if_pos z]
    unfold p_X11_rowsOf_7
    rw [gcl_0, h0]
    refine ⟨vp_in_nI (n := 0) (by decide) (by decide), fun g => ?_, fun _ => ⟨gx_in _ (gx_m6j i 5) (by omega) (by decide), fun z8 hz8 => ?_⟩⟩
    · rw [nI_leI (by omega) (by omega)] at g; omega
    · have e5 : ((3 : Int32) + (6 : Int32) * nI i + (5 : Int32)).toNatClampNeg = 3 + 6 * i + 5 := gx_cl _ (gx_m6j i 5) (by omega)
      rw [e5, ← hC i hi 5 (by decide)] at hz8
      subst hz8
      refine ⟨fun z => put1 (Or.inl z), fun z0 => ⟨fun z => put1 (Or.inr z), fun z2 => h46 _ e ?_ he⟩⟩
      rw [ha, if_neg (fun z => z.elim z0 z2), List.append_nil]
  · rintro X a b e ⟨rfl, rfl, he⟩
    have hl := gsr_len C n
    unfold p_X11_rowsOf_7
    rw [gcl_0, h0]
    refine ⟨vp_in_nI (n := 0) (by decide) (by decide), fun _ => s_X11_bound he (by omega) hv (fun c1 g1 => ⟨vp_in_nI (n := 1) (by decide) (by decide), ?_⟩), fun g => absurd (by rw [nI_leI (by omega) (by omega)]; exact Nat.le_refl _) g⟩
    rw [gcl_1, h1]
    exact s_X11_bound g1 (by rw [gLen]; omega) hv (fun c2 g2 => hQ c2 g2)
theorem s_X11_shadowOf {C : Nat → Nat → Int32} {n v mo : Nat} {dark : Bool} {sz1 sz2 xd : Int32} {rows shadow now : Nat → Int32} {Q : Int32 → Int32 → (Nat → Int32) → (Nat → Int32) → Prop} (hn : n ≤ 8) (hv : v < 4) (hmo : mo ≤ 7) (h0 : now 0 = nI n) (h1 : now 1 = nI mo) (hC : ∀ k, k < n → ∀ j, j < 6 → C k j = now (3 + 6 * k + j)) (hB : ∀ k, k < n → ∀ j, j < 5 → gB (C k j) 99) (hd : xd = if dark = true then 1 else 0)
    (hQ : ∀ rows' shadow', gRw (gsrc C n v mo) rows' → gRw (gshd (gsrc C n v mo) v dark) shadow' → Q (nI (gsrc C n v mo).length) (nI (gshd (gsrc C n v mo) v dark).length) rows' shadow') : p_X11_shadowOf sz1 sz2 now rows shadow (nI v) xd Q := by
  have hN := gsrc_len C v mo hn
  have hsm : gsm (gsrc C n v mo) := gsm_src hmo hB
  unfold p_X11_shadowOf
  refine s_X11_rowsOf hn hv h0 h1 hC (fun sc hS => ?_)
  replace hQ := fun sh hsh => hQ sc sh hS hsh
  revert hN hsm hS hQ
  generalize gsrc C n v mo = S
  intro hN hsm hS hQ
  have hca := c_all S v S.length
  refine gi3_inv S.length (fun r a b e => a = nI r ∧ b = nI (gal S v r).length ∧ gRw (gal S v r) e) ?_ ?_ ⟨rfl, rfl, gRw_nil _⟩
  · rintro r hr X a b e ⟨rfl, rfl, he⟩ hX
    have hal := gal_len S v r
    have hle : cz S v r ≤ r := gcnt_le _ _
    have hs : gal S v (r + 1) = gal S v r ++ (if sr S r v = 0 then [gred (sr S r)] else []) := rfl
    have en : nI r + (1 : Int32) = nI (r + 1) := nI_add r 1
    unfold p_X11_shadowOf_12
    refine ⟨fun g => ?_, fun _ => ⟨gx_in _ (gx_5m r v) (by omega) (by decide), ?_⟩⟩
    · rw [nI_leI (by omega) (by omega)] at g; omega
    · rw [gx_cl _ (gx_5m r v) (by omega), hS r hr v (by omega)]
      refine ⟨fun z => ?_, fun z => ?_⟩
      · rw [if_pos z] at hs
        refine gi2_inv 5 (fun i a e' => a = nI i ∧ (∀ j, j < i → e' (5 * (gal S v r).length + j) = sr S r j) ∧ ∀ q, q < 5 * (gal S v r).length → e' q = e q) ?_ ?_ ⟨rfl, fun j hj => absurd hj (Nat.not_lt_zero j), fun _ _ => rfl⟩
        · rintro i hi Y a e' ⟨rfl, e1, e2⟩ hY
          unfold p_X11_shadowOf_36
          refine ⟨fun g => ?_, fun _ => ⟨gx_in _ (gx_5m r i) (by omega) (by decide), gx_in _ (gx_5m _ i) (by omega) (by decide), ?_⟩⟩
          · rw [gl_5, nI_leI (by decide) (by omega)] at g; omega
          · rw [gx_cl _ (gx_5m r i) (by omega), gx_cl _ (gx_5m (gal S v r).length i) (by omega), hS r hr i hi]
            refine hY _ _ ⟨by rw [gl_1, nI_add], fun j hj => ?_, fun q hq => ?_⟩
            · by_cases ej : j = i
              · subst ej; rw [pk_us]
              · rw [pk_un (by omega)]; exact e1 j (by omega)
            · rw [pk_un (by omega)]; exact e2 q hq
        · rintro Y a e' ⟨rfl, e1, e2⟩
          have hb : ∀ j, j < 5 → (sr S r j).toInt.natAbs < 2 ^ 30 := fun j hj => by
            have := gsm_sr hsm hr hj
            unfold gB at this
            omega
          unfold p_X11_shadowOf_36
          refine ⟨fun _ => s_X11_reduces (x := sr S r) (by omega) e1 hb (fun c' c1 c2 => ?_), fun g => absurd (by decide) g⟩
          unfold p_X11_shadowOf_77
          rw [en, ← gLen (gal S v r) (gred (sr S r))]
          exact hX _ _ _ ⟨rfl, by rw [hs], by rw [hs]; exact gRw_app he (fun q hq => by rw [c2 q (by omega), e2 q hq]) c1⟩
      · rw [if_neg z, List.append_nil] at hs
        unfold p_X11_shadowOf_77
        rw [en]
        exact hX _ _ _ ⟨rfl, by rw [hs], by rw [hs]; exact he⟩
  · rintro X a b e ⟨rfl, rfl, he⟩
    unfold p_X11_shadowOf_12
    refine ⟨fun _ => ?_, fun g => absurd (by rw [nI_leI (by omega) (by omega)]; exact Nat.le_refl _) g⟩
    refine gi3_inv S.length (fun l a b e => a = nI l ∧ b = nI (gal S v S.length ++ gpo S v dark S.length l).length ∧ gRw (gal S v S.length ++ gpo S v dark S.length l) e) ?_ ?_ ⟨rfl, by rw [show gpo S v dark S.length 0 = [] from rfl, List.append_nil], by rw [show gpo S v dark S.length 0 = [] from rfl, List.append_nil]; exact he⟩
    · rintro l hl Y a b e ⟨rfl, rfl, he⟩ hY
      unfold p_X11_shadowOf_85
      refine ⟨fun g => ?_, fun _ => ?_⟩
      · rw [nI_leI (by omega) (by omega)] at g; omega
      · refine gi3_inv S.length (fun u a b e => a = nI u ∧ b = nI (gal S v S.length ++ gpo S v dark S.length l ++ gpi S v dark l u).length ∧ gRw (gal S v S.length ++ gpo S v dark S.length l ++ gpi S v dark l u) e) ?_ ?_ ⟨rfl, by rw [show gpi S v dark l 0 = [] from rfl, List.append_nil], by rw [show gpi S v dark l 0 = [] from rfl, List.append_nil]; exact he⟩
        · rintro u hu Z a b e ⟨rfl, rfl, he⟩ hZ
          have hs : gpi S v dark l (u + 1) = gpi S v dark l u ++ (if 0 < sr S l v ∧ sr S u v < 0 then [gred (gpr (sr S l) (sr S u) v dark)] else []) := rfl
          have en : nI u + (1 : Int32) = nI (u + 1) := nI_add u 1
          have skip : ¬ (0 < sr S l v ∧ sr S u v < 0) → p_X11_shadowOf_237 (nI (gal S v S.length ++ gpo S v dark S.length l ++ gpi S v dark l u).length) e (nI u) Z := by
            intro z
            unfold p_X11_shadowOf_237
            rw [if_neg z, List.append_nil] at hs
            rw [en]
            exact hZ _ _ _ ⟨rfl, by rw [hs], by rw [hs]; exact he⟩
          unfold p_X11_shadowOf_96
          refine ⟨fun g => ?_, fun _ => ⟨gx_in _ (gx_5m l v) (by omega) (by decide), fun z4 hz4 => ⟨gx_in _ (gx_5m u v) (by omega) (by decide), fun z6 hz6 => ?_⟩⟩⟩
          · rw [nI_leI (by omega) (by omega)] at g; omega
          · rw [gx_cl _ (gx_5m l v) (by omega), hS l hl v (by omega)] at hz4
            rw [gx_cl _ (gx_5m u v) (by omega), hS u hu v (by omega)] at hz6
            subst hz4 hz6
            have hbu : gB (sr S u v) 99 := gsm_sr hsm hu (by omega)
            have z0 : (0 : Int32).toInt = 0 := rfl
            have hneg : (-(sr S u v) ≤ 0) ↔ ¬ (sr S u v < 0) := by
              unfold gB at hbu
              rw [Int32.le_iff_toInt_le, Int32.lt_iff_toInt_lt, Int32.toInt_neg, gm_bm (by omega) (by omega), z0]
              omega
            refine ⟨fun z => skip (fun y => absurd z (Int32.not_le.mpr y.1)), fun z => ⟨fun z2 => skip (fun y => (hneg.mp z2) y.2), fun z2 => ?_⟩⟩
            have p1 := Int32.not_le.mp z
            have p2 : sr S u v < 0 := Decidable.byContradiction (fun y => z2 (hneg.mpr y))
            have p3 := g81 (dark := dark) hN hl hu p1 p2
            rw [if_pos ⟨p1, p2⟩] at hs
            revert hs he p3
            generalize hTT : gal S v S.length ++ gpo S v dark S.length l ++ gpi S v dark l u = T
            intro he hs p3
            refine gi2_inv 5 (fun i a e' => a = nI i ∧ (∀ j, j < i → e' (5 * T.length + j) = sr S l j * (-(sr S u v)) + sr S u j * sr S l v) ∧ ∀ q, q < 5 * T.length → e' q = e q) ?_ ?_ ⟨rfl, fun j hj => absurd hj (Nat.not_lt_zero j), fun _ _ => rfl⟩
            · rintro i hi W a e' ⟨rfl, e1, e2⟩ hW
              unfold p_X11_shadowOf_144
              refine ⟨fun g => ?_, fun _ => ⟨gx_in _ (gx_5m l i) (by omega) (by decide), gx_in _ (gx_5m u i) (by omega) (by decide), gx_in _ (gx_5m _ i) (by omega) (by decide), ?_⟩⟩
              · rw [gl_5, nI_leI (by decide) (by omega)] at g; omega
              · rw [gx_cl _ (gx_5m l i) (by omega), gx_cl _ (gx_5m u i) (by omega), gx_cl _ (gx_5m T.length i) (by omega), hS l hl i hi, hS u hu i hi]
                refine hW _ _ ⟨by rw [gl_1, nI_add], fun j hj => ?_, fun q hq => ?_⟩
                · by_cases ej : j = i
                  · subst ej; rw [pk_us]
                  · rw [pk_un (by omega)]; exact e1 j (by omega)
                · rw [pk_un (by omega)]; exact e2 q hq
            · rintro W a e' ⟨rfl, e1, e2⟩
              unfold p_X11_shadowOf_144
              refine ⟨fun _ => ?_, fun g => absurd (by decide) g⟩
              have e4 : (5 : Int32) * nI T.length + (4 : Int32) = nI (5 * T.length + 4) := gx_5m _ 4
              have hb := gpr_bd (dark := dark) (show v < 5 by omega) (fun j hj => gsm_sr hsm hl hj) (fun j hj => gsm_sr hsm hu hj)
              rw [gx_cl _ e4 (by omega), e1 4 (by decide)]
              have fin : ∀ s3 : Int32, s3 = (if dark = true then (sr S l v - 1) * (-(sr S u v) - 1) else 0) → p_X11_shadowOf_231 (nI T.length) e' (nI u) ((5 : Int32) * nI T.length + (4 : Int32)) (sr S l 4 * (-(sr S u v)) + sr S u 4 * sr S l v) s3 Z := by
                intro s3 hs3
                unfold p_X11_shadowOf_231
                refine ⟨gx_in _ e4 (by omega) (by decide), ?_⟩
                rw [gx_cl _ e4 (by omega)]
                refine s_X11_reduces (x := gpr (sr S l) (sr S u) v dark) (by omega) (fun j hj => ?_) hb (fun c' c1 c2 => ?_)
                · unfold gpr
                  by_cases ej : j = 4
                  · subst ej
                    rw [pk_us, if_pos rfl, hs3]
                  · rw [pk_un (by omega), if_neg ej]
                    exact e1 j hj
                · unfold p_X11_shadowOf_237
                  rw [en, ← gLen T (gred (gpr (sr S l) (sr S u) v dark))]
                  refine hZ _ _ _ ⟨rfl, ?_, ?_⟩
                  · rw [hs, ← List.append_assoc, hTT]
                  · rw [hs, ← List.append_assoc, hTT]
                    exact gRw_app he (fun q hq => by rw [c2 q (by omega), pk_un (by omega), e2 q hq]) c1
              refine ⟨gx_in _ e4 (by omega) (by decide), fun z => fin _ ?_, fun z => fin _ ?_⟩
              · by_cases hdk : dark = true
                · rw [hd, if_pos hdk] at z; exact absurd z (by decide)
                · rw [if_neg hdk]
              · by_cases hdk : dark = true
                · rw [if_pos hdk]
                · rw [hd, if_neg hdk] at z; exact absurd rfl z
        · rintro Z a b e ⟨rfl, rfl, he⟩
          unfold p_X11_shadowOf_96
          refine ⟨fun _ => hY _ _ _ ⟨nI_add l 1, ?_, ?_⟩, fun g => absurd (by rw [nI_leI (by omega) (by omega)]; exact Nat.le_refl _) g⟩
          · rw [show gpo S v dark S.length (l + 1) = gpo S v dark S.length l ++ gpi S v dark l S.length from rfl, ← List.append_assoc]
          · rw [show gpo S v dark S.length (l + 1) = gpo S v dark S.length l ++ gpi S v dark l S.length from rfl, ← List.append_assoc]
            exact he
    · rintro Y a b e ⟨rfl, rfl, he⟩
      unfold p_X11_shadowOf_85
      exact ⟨fun _ => hQ e he, fun g => absurd (by rw [nI_leI (by omega) (by omega)]; exact Nat.le_refl _) g⟩
theorem s_X11_isIn {S : List (Nat → Int32)} {c : Nat → Int32} {p : Nat} {Q : Int32 → Prop} (hS : gRw S c) (hm : 5 * S.length ≤ 480) (hp : p < 4096) (h1 : gin S p = true → Q 1) (h0 : ¬ gin S p = true → Q 0) : p_X11_isIn (nI S.length) c (nI p) Q := by
  unfold p_X11_isIn
  refine gi2_inv S.length (fun r a b => b = nI r ∧ ((a = 1 ∧ gfit (fun r => decide (0 ≤ gsum (sr S r) p)) r = true) ∨ (a = 0 ∧ ¬ gfit (fun r => decide (0 ≤ gsum (sr S r) p)) r = true))) ?_ ?_ ⟨rfl, Or.inl ⟨rfl, rfl⟩⟩
  · rintro r hr X a b ⟨rfl, ha⟩ hX
    have en : nI r + (1 : Int32) = nI (r + 1) := nI_add r 1
    have e4 : (5 : Int32) * nI r + (4 : Int32) = nI (5 * r + 4) := gx_5m r 4
    unfold p_X11_isIn_4
    refine ⟨fun g => ?_, fun _ => ?_⟩
    · rw [nI_leI (by omega) (by omega)] at g; omega
    · rcases ha with ⟨rfl, ha⟩ | ⟨rfl, ha⟩
      · refine ⟨g10, fun _ => ⟨gx_in _ e4 (by omega) (by decide), fun z2 hz2 => ?_⟩⟩
        rw [gx_cl _ e4 (by omega), hS r hr 4 (by decide)] at hz2
        subst hz2
        refine gi2_inv (f := p_X11_isIn_31 c (nI p) (nI r) X) 4 (fun i a b => b = nI i ∧ a = (match i with
          | 0 => sr S r 4
          | 1 => sr S r 4 + sr S r 0 * nI (gv p 0)
          | 2 => sr S r 4 + sr S r 0 * nI (gv p 0) + sr S r 1 * nI (gv p 1)
          | 3 => sr S r 4 + sr S r 0 * nI (gv p 0) + sr S r 1 * nI (gv p 1) + sr S r 2 * nI (gv p 2)
          | _ => sr S r 4 + sr S r 0 * nI (gv p 0) + sr S r 1 * nI (gv p 1) + sr S r 2 * nI (gv p 2) + sr S r 3 * nI (gv p 3))) ?_ ?_ ⟨rfl, rfl⟩
        · rintro i hi Y a b ⟨rfl, rfl⟩ hY
          unfold p_X11_isIn_31
          refine ⟨fun g => ?_, fun _ => ⟨gx_in _ (gx_5m r i) (by omega) (by decide), s_X11_valueOf hp hi rfl (fun z hz => ?_)⟩⟩
          · rw [gl_4, nI_leI (by decide) (by omega)] at g; omega
          · rw [gx_cl _ (gx_5m r i) (by omega), hS r hr i (by omega)] at hz
            refine hY _ _ ⟨by rw [gl_1, nI_add], ?_⟩
            rcases (show i = 0 ∨ i = 1 ∨ i = 2 ∨ i = 3 by omega) with rfl | rfl | rfl | rfl <;> exact hz
        · rintro Y a b ⟨rfl, rfl⟩
          have eg : sr S r 4 + sr S r 0 * nI (gv p 0) + sr S r 1 * nI (gv p 1) + sr S r 2 * nI (gv p 2) + sr S r 3 * nI (gv p 3) = gsum (sr S r) p := gm_ac5 _ _ _ _ _
          unfold p_X11_isIn_31 p_X11_isIn_76
          rw [en]
          refine ⟨fun _ => ?_, fun g => absurd (by decide) g⟩
          show (sr S r 4 + sr S r 0 * nI (gv p 0) + sr S r 1 * nI (gv p 1) + sr S r 2 * nI (gv p 2) + sr S r 3 * nI (gv p 3) < 0 → _) ∧ (¬ (sr S r 4 + sr S r 0 * nI (gv p 0) + sr S r 1 * nI (gv p 1) + sr S r 2 * nI (gv p 2) + sr S r 3 * nI (gv p 3) < 0) → _)
          rw [eg]
          refine ⟨fun g => hX _ _ ⟨rfl, Or.inr ⟨rfl, fun z => ?_⟩⟩, fun g => hX _ _ ⟨rfl, Or.inl ⟨rfl, gfit_s.mpr ⟨ha, decide_eq_true (Int32.not_lt.mp g)⟩⟩⟩⟩
          exact absurd g (Int32.not_lt.mpr (of_decide_eq_true (gfit_s.mp z).2))
      · exact ⟨fun _ => ⟨rfl, h0 (gfit_no ha _ (by omega))⟩, g00⟩
  · rintro X a b ⟨rfl, ha⟩
    unfold p_X11_isIn_4
    refine ⟨fun _ => ?_, fun g => absurd (by rw [nI_leI (by omega) (by omega)]; exact Nat.le_refl _) g⟩
    rcases ha with ⟨rfl, ha⟩ | ⟨rfl, ha⟩
    · exact ⟨rfl, h1 ha⟩
    · exact ⟨rfl, h0 ha⟩
theorem s_X11_areRows {S : List (Nat → Int32)} {c : Nat → Int32} {p : Nat} {Q : Int32 → Prop} (hS : gRw S c) (hm : 5 * S.length ≤ 90) (hp : p < 4096) (h1 : gin S p = true → Q 1) (h0 : ¬ gin S p = true → Q 0) : p_X11_areRows (nI S.length) c (nI p) Q := by
  unfold p_X11_areRows
  refine gi2_inv S.length (fun r a b => b = nI r ∧ ((a = 1 ∧ gfit (fun r => decide (0 ≤ gsum (sr S r) p)) r = true) ∨ (a = 0 ∧ ¬ gfit (fun r => decide (0 ≤ gsum (sr S r) p)) r = true))) ?_ ?_ ⟨rfl, Or.inl ⟨rfl, rfl⟩⟩
  · rintro r hr X a b ⟨rfl, ha⟩ hX
    have en : nI r + (1 : Int32) = nI (r + 1) := nI_add r 1
    have e4 : (5 : Int32) * nI r + (4 : Int32) = nI (5 * r + 4) := gx_5m r 4
    unfold p_X11_areRows_4
    refine ⟨fun g => ?_, fun _ => ?_⟩
    · rw [nI_leI (by omega) (by omega)] at g; omega
    · rcases ha with ⟨rfl, ha⟩ | ⟨rfl, ha⟩
      · refine ⟨g10, fun _ => ⟨gx_in _ e4 (by omega) (by decide), fun z2 hz2 => ?_⟩⟩
        rw [gx_cl _ e4 (by omega), hS r hr 4 (by decide)] at hz2
        subst hz2
        refine gi2_inv (f := p_X11_areRows_31 c (nI p) (nI r) X) 4 (fun i a b => b = nI i ∧ a = (match i with
          | 0 => sr S r 4
          | 1 => sr S r 4 + sr S r 0 * nI (gv p 0)
          | 2 => sr S r 4 + sr S r 0 * nI (gv p 0) + sr S r 1 * nI (gv p 1)
          | 3 => sr S r 4 + sr S r 0 * nI (gv p 0) + sr S r 1 * nI (gv p 1) + sr S r 2 * nI (gv p 2)
          | _ => sr S r 4 + sr S r 0 * nI (gv p 0) + sr S r 1 * nI (gv p 1) + sr S r 2 * nI (gv p 2) + sr S r 3 * nI (gv p 3))) ?_ ?_ ⟨rfl, rfl⟩
        · rintro i hi Y a b ⟨rfl, rfl⟩ hY
          unfold p_X11_areRows_31
          refine ⟨fun g => ?_, fun _ => ⟨gx_in _ (gx_5m r i) (by omega) (by decide), s_X11_valueOf hp hi rfl (fun z hz => ?_)⟩⟩
          · rw [gl_4, nI_leI (by decide) (by omega)] at g; omega
          · rw [gx_cl _ (gx_5m r i) (by omega), hS r hr i (by omega)] at hz
            refine hY _ _ ⟨by rw [gl_1, nI_add], ?_⟩
            rcases (show i = 0 ∨ i = 1 ∨ i = 2 ∨ i = 3 by omega) with rfl | rfl | rfl | rfl <;> exact hz
        · rintro Y a b ⟨rfl, rfl⟩
          have eg : sr S r 4 + sr S r 0 * nI (gv p 0) + sr S r 1 * nI (gv p 1) + sr S r 2 * nI (gv p 2) + sr S r 3 * nI (gv p 3) = gsum (sr S r) p := gm_ac5 _ _ _ _ _
          unfold p_X11_areRows_31 p_X11_areRows_76
          rw [en]
          refine ⟨fun _ => ?_, fun g => absurd (by decide) g⟩
          show (sr S r 4 + sr S r 0 * nI (gv p 0) + sr S r 1 * nI (gv p 1) + sr S r 2 * nI (gv p 2) + sr S r 3 * nI (gv p 3) < 0 → _) ∧ (¬ (sr S r 4 + sr S r 0 * nI (gv p 0) + sr S r 1 * nI (gv p 1) + sr S r 2 * nI (gv p 2) + sr S r 3 * nI (gv p 3) < 0) → _)
          rw [eg]
          refine ⟨fun g => hX _ _ ⟨rfl, Or.inr ⟨rfl, fun z => ?_⟩⟩, fun g => hX _ _ ⟨rfl, Or.inl ⟨rfl, gfit_s.mpr ⟨ha, decide_eq_true (Int32.not_lt.mp g)⟩⟩⟩⟩
          exact absurd g (Int32.not_lt.mpr (of_decide_eq_true (gfit_s.mp z).2))
      · exact ⟨fun _ => ⟨rfl, h0 (gfit_no ha _ (by omega))⟩, g00⟩
  · rintro X a b ⟨rfl, ha⟩
    unfold p_X11_areRows_4
    refine ⟨fun _ => ?_, fun g => absurd (by rw [nI_leI (by omega) (by omega)]; exact Nat.le_refl _) g⟩
    rcases ha with ⟨rfl, ha⟩ | ⟨rfl, ha⟩
    · exact ⟨rfl, h1 ha⟩
    · exact ⟨rfl, h0 ha⟩
theorem s_X11_isTrue {S : List (Nat → Int32)} {rows now : Nat → Int32} {mo i p : Nat} {Q : Int32 → Prop} (hS : gRw S rows) (hN : S.length ≤ 18) (hmo : mo ≤ 7) (hm1 : now 1 = nI mo) (hi : i < 4) (hp : p < 4096) (h0 : gv p i = 0) (hQ1 : gtrue S mo i p = true → Q 1) (hQ0 : ¬ gtrue S mo i p = true → Q 0) : p_X11_isTrue (nI S.length) now rows (nI p) (nI i) Q := by
  rw [gtrue_def] at hQ1 hQ0
  unfold p_X11_isTrue
  refine gi2_inv (mo + 1) (fun w a b => b = nI w ∧ ((a = 0 ∧ ¬ gany (gtb S i p) w = true) ∨ (a = 1 ∧ gany (gtb S i p) w = true))) ?_ ?_ ⟨rfl, Or.inl ⟨rfl, Bool.false_ne_true⟩⟩
  · rintro w hw X a b ⟨rfl, ha⟩ hX
    have h8 : w < 8 := by omega
    have h90 : 5 * S.length ≤ 90 := by omega
    have hno : ¬ nI mo < nI w := by
      rw [nI_ltI (by omega) (by omega)]
      omega
    have en : nI w + (1 : Int32) = nI (w + 1) := nI_add w 1
    have g := gwv hp hi h0 h8
    unfold p_X11_isTrue_5
    rw [gcl_1, hm1]
    refine ⟨vp_in_nI (n := 1) (by decide) (by decide), fun z => absurd z hno, fun _ => ?_⟩
    have more : gany (gtb S i p) (w + 1) = true → p_X11_isTrue_38 (nI w) X := by
      intro z
      unfold p_X11_isTrue_38 p_X11_isTrue_43
      rw [en]
      exact hX _ _ ⟨rfl, Or.inr ⟨rfl, z⟩⟩
    rcases ha with ⟨rfl, ha⟩ | ⟨rfl, ha⟩
    · refine ⟨fun _ => ?_, g00⟩
      rw [g.1, nI_add]
      refine s_X11_areRows hS h90 g.2.2 (fun z => ⟨g10, fun _ => more (gany_s.mpr (Or.inr z))⟩) (fun z => ⟨fun _ => ?_, g00⟩)
      unfold p_X11_isTrue_43
      rw [en]
      refine hX _ _ ⟨rfl, Or.inl ⟨rfl, fun y => ?_⟩⟩
      rcases gany_s.mp y with y | y
      · exact ha y
      · exact z y
    · exact ⟨g10, fun _ => more (gany_s.mpr (Or.inl ha))⟩
  · rintro X a b ⟨rfl, ha⟩
    have hy : nI mo < nI (mo + 1) := by
      rw [nI_ltI (by omega) (by omega)]
      omega
    unfold p_X11_isTrue_5
    rw [gcl_1, hm1]
    refine ⟨vp_in_nI (n := 1) (by decide) (by decide), fun _ => ?_, fun z => absurd hy z⟩
    rcases ha with ⟨rfl, ha⟩ | ⟨rfl, ha⟩
    · exact ⟨rfl, hQ0 ha⟩
    · exact ⟨rfl, hQ1 ha⟩
/-! row -/
def gC6 (cells : Nat → Int32) (k j : Nat) : Int32 := if j < 6 then cells (6 * k + j) else 0
theorem gC6_B {n : Nat} {cells : Nat → Int32} (hR : gRng n cells) : ∀ k, k < n → ∀ j, j < 5 → gB (gC6 cells k j) 99 := by
  intro k hk j hj
  obtain ⟨r1, r2, -⟩ := hR k hk
  unfold gC6 gB
  rw [if_pos (by omega)]
  by_cases e : j = 4
  · subst e; omega
  · have := r1 j (by omega)
    omega
theorem o_row {n mo : Nat} {cells now dc rc sc rows shadow : Nat → Int32} {size most draw ds rs ss rm sm a1 a2 a3 a4 : Int32} {X : Int32 → (Nat → Int32) → Int32 → (Nat → Int32) → Int32 → (Nat → Int32) → Int32 → Int32 → (Nat → Int32) → (Nat → Int32) → Prop} (hS : gSnap n mo cells size most draw now) (hX : ∀ y1 y2 y3 y4 y5 y6 y7 y8 y9 y10, X y1 y2 y3 y4 y5 y6 y7 y8 y9 y10) : p_X10_row 405 405 90 size most cells ds dc rs rc ss sc a1 a2 a3 a4 (fun r1 y2 y3 y4 y5 y6 y7 => p_X11_row rm sm now rows shadow a1 a2 a3 a4 (fun r8 y9 y10 y11 y12 => r1 = r8 ∧ X y2 y3 y4 y5 y6 y7 y9 y10 y11 y12)) := by
  obtain ⟨hn, -, hm, rfl, rfl, h0, h1, -, -, hc, hR⟩ := hS
  have hC1 : ∀ k, k < n → ∀ j, j < 6 → gC6 cells k j = cells (6 * k + j) := fun k hk j hj => if_pos hj
  have hC2 : ∀ k, k < n → ∀ j, j < 6 → gC6 cells k j = now (3 + 6 * k + j) := fun k hk j hj => by rw [hC1 k hk j hj]; exact hc k hk j hj
  have hB := gC6_B hR
  have z0 : (0 : Int32).toInt = 0 := rfl
  have zm : (-1 : Int32).toInt = -1 := rfl
  unfold p_X10_row p_X10_isNoVariable
  by_cases hv : ∃ v, v < 4 ∧ a1 = nI v
  · obtain ⟨v, hv, rfl⟩ := hv
    have hN := gsrc_len (gC6 cells) v mo hn
    have hsm : gsm (gsrc (gC6 cells) n v mo) := gsm_src hm hB
    refine s_oR_in hv (by decide) rfl ⟨rfl, ⟨fun _ => ?_, g00⟩⟩
    by_cases hs : ∃ s, s < 2 ∧ a2 = nI s
    · obtain ⟨s, hs, rfl⟩ := hs
      refine s_oR_in hs (by decide) rfl ⟨fun _ => ?_, g00⟩
      by_cases hi : ∃ i, i < 5 ∧ a4 = nI i
      · obtain ⟨i, hi, rfl⟩ := hi
        have enter : ∀ Q : Int32 → Int32 → Int32 → (Nat → Int32) → (Nat → Int32) → Prop, ((-1 : Int32) ≤ a3 → p_X11_row_50 rm sm now rows shadow a3 (nI i) (nI v) (if decide (s = 1) = true then 1 else 0) Q) → (¬ ((-1 : Int32) ≤ a3) → Q (-1000001) rm sm rows shadow) → p_X11_row rm sm now rows shadow (nI v) (nI s) a3 (nI i) Q := by
          intro Q e1 e2
          unfold p_X11_row p_X11_isVariable
          refine s_iR_in hv (by decide) (by decide) ⟨rfl, ⟨g10, fun _ => s_iR_in hs (by decide) (by decide) ⟨g10, fun _ => s_iR_in hi (by decide) (by decide) ⟨g10, fun _ => ⟨fun z => ⟨fun y => ?_, fun y => ?_⟩, e2⟩⟩⟩⟩⟩
          · rw [gl_1, nI_eq (by omega) (by decide)] at y
            have := e1 z
            rw [if_pos (decide_eq_true y)] at this
            exact this
          · rw [gl_1, nI_eq (by omega) (by decide)] at y
            have := e1 z
            rw [if_neg (by rw [decide_eq_true_eq]; exact y)] at this
            exact this
        refine ⟨fun g => enter _ (fun z => ?_) (fun _ => ⟨rfl, hX _ _ _ _ _ _ _ _ _ _⟩), fun g => s_oR_in hi (by decide) rfl ⟨fun _ => ?_, g00⟩⟩
        · exfalso
          rw [Int32.lt_iff_toInt_lt] at g
          rw [Int32.le_iff_toInt_le] at z
          omega
        · have hge : (-1 : Int32) ≤ a3 := Int32.not_lt.mp g
          have lT : ∀ dark, (gshd (gsrc (gC6 cells) n v mo) v dark).length ≤ 81 := fun dark => gshd_len hN
          have fin : ∀ (dark : Bool), dark = decide (s = 1) → ∀ (sh : Nat → Int32) (Y : Int32 → Int32 → Int32 → (Nat → Int32) → (Nat → Int32) → Prop), (∀ r, (a3 = -1 → r = nI (gshd (gsrc (gC6 cells) n v mo) v dark).length) → (¬ a3 = -1 → nI (gshd (gsrc (gC6 cells) n v mo) v dark).length ≤ a3 → r = -1000001) → (∀ k, k < (gshd (gsrc (gC6 cells) n v mo) v dark).length → a3 = nI k → r = sr (gshd (gsrc (gC6 cells) n v mo) v dark) k i) → ∀ y1 y2 y3 y4, Y r y1 y2 y3 y4) → p_X11_row rm sm now rows shadow (nI v) (nI s) a3 (nI i) Y := by
            intro dark hdk sh Y hY
            refine enter Y (fun _ => ?_) (fun z => absurd hge z)
            unfold p_X11_row_50
            refine s_X11_shadowOf (C := gC6 cells) (dark := dark) hn hv hm h0 h1 hC2 hB (by rw [hdk]) (fun rows' shadow' hr' hs' => ⟨fun z => hY _ (fun _ => rfl) (fun y => absurd z y) (fun k hk e => ?_) _ _ _ _, fun z => ⟨fun z2 => hY _ (fun y => absurd y z) (fun _ _ => rfl) (fun k hk e => ?_) _ _ _ _, fun z2 => ?_⟩⟩)
            · rw [e] at z
              have := congrArg Int32.toInt z
              have := lT dark
              rw [nI_toInt (by omega), zm] at *
              omega
            · have := lT dark
              rw [e, nI_leI (by omega) (by omega)] at z2
              omega
            · have hl := lT dark
              rcases pk_ix a3 (n := (gshd (gsrc (gC6 cells) n v mo) v dark).length) (by omega) with y | y | ⟨k, hk, rfl⟩
              · exfalso
                rw [Int32.lt_iff_toInt_lt, z0] at y
                rw [Int32.le_iff_toInt_le, zm] at hge
                exact z (Int32.toInt_inj.mp (by rw [zm]; omega))
              · exact absurd y z2
              · refine ⟨gx_in _ (gx_5m k i) (by omega) (by decide), ?_⟩
                rw [gx_cl _ (gx_5m k i) (by omega), hs' k hk i hi]
                refine hY _ (fun y => absurd y z) (fun _ y => absurd y z2) (fun k' hk' e => ?_) _ _ _ _
                rw [nI_eq (by omega) (by omega)] at e
                rw [e]
          have cls : ∀ (dark : Bool), dark = decide (s = 1) → ∀ (cells' : Nat → Int32), gRw (gshd (gsrc (gC6 cells) n v mo) v dark) cells' → ∀ (Y : Int32 → Prop), (∀ r, ((a3 = -1 → r = nI (gshd (gsrc (gC6 cells) n v mo) v dark).length) ∧ (¬ a3 = -1 → nI (gshd (gsrc (gC6 cells) n v mo) v dark).length ≤ a3 → r = -1000001) ∧ (∀ k, k < (gshd (gsrc (gC6 cells) n v mo) v dark).length → a3 = nI k → r = sr (gshd (gsrc (gC6 cells) n v mo) v dark) k i)) → Y r) → (a3 = (-1 : Int32) → Y (nI (gshd (gsrc (gC6 cells) n v mo) v dark).length)) ∧ (¬ a3 = (-1 : Int32) → ((nI (gshd (gsrc (gC6 cells) n v mo) v dark).length ≤ a3 → Y (-1000001 : Int32)) ∧ (¬ (nI (gshd (gsrc (gC6 cells) n v mo) v dark).length ≤ a3) → p_X4_cell 405 cells' a3 (nI i) (fun r => Y r)))) := by
            intro dark hdk cells' hcl Y hY
            have hl := lT dark
            refine ⟨fun z => hY _ ⟨fun _ => rfl, fun y => absurd z y, fun k hk e => ?_⟩, fun z => ⟨fun z2 => hY _ ⟨fun y => absurd y z, fun _ _ => rfl, fun k hk e => ?_⟩, fun z2 => ?_⟩⟩
            · rw [e] at z
              have := congrArg Int32.toInt z
              rw [nI_toInt (by omega), zm] at this
              omega
            · rw [e, nI_leI (by omega) (by omega)] at z2
              omega
            · rcases pk_ix a3 (n := (gshd (gsrc (gC6 cells) n v mo) v dark).length) (by omega) with y | y | ⟨k, hk, rfl⟩
              · exfalso
                rw [Int32.lt_iff_toInt_lt, z0] at y
                rw [Int32.le_iff_toInt_le, zm] at hge
                exact z (Int32.toInt_inj.mp (by rw [zm]; omega))
              · exact absurd y z2
              · refine s_X4_cell hcl hk hi (by omega) (by decide) (hY _ ⟨fun y => absurd y z, fun _ y => absurd y z2, fun k' hk' e => ?_⟩)
                rw [nI_eq (by omega) (by omega)] at e
                rw [e]
          have same : ∀ (dark : Bool) (r1 r2 : Int32), ((a3 = -1 → r1 = nI (gshd (gsrc (gC6 cells) n v mo) v dark).length) ∧ (¬ a3 = -1 → nI (gshd (gsrc (gC6 cells) n v mo) v dark).length ≤ a3 → r1 = -1000001) ∧ (∀ k, k < (gshd (gsrc (gC6 cells) n v mo) v dark).length → a3 = nI k → r1 = sr (gshd (gsrc (gC6 cells) n v mo) v dark) k i)) → (a3 = -1 → r2 = nI (gshd (gsrc (gC6 cells) n v mo) v dark).length) → (¬ a3 = -1 → nI (gshd (gsrc (gC6 cells) n v mo) v dark).length ≤ a3 → r2 = -1000001) → (∀ k, k < (gshd (gsrc (gC6 cells) n v mo) v dark).length → a3 = nI k → r2 = sr (gshd (gsrc (gC6 cells) n v mo) v dark) k i) → r1 = r2 := by
            rintro dark r1 r2 ⟨q1, q2, q3⟩ w1 w2 w3
            have hl := lT dark
            by_cases z : a3 = -1
            · rw [q1 z, w1 z]
            · rcases pk_ix a3 (n := (gshd (gsrc (gC6 cells) n v mo) v dark).length) (by omega) with y | y | ⟨k, hk, e⟩
              · exfalso
                rw [Int32.lt_iff_toInt_lt, z0] at y
                rw [Int32.le_iff_toInt_le, zm] at hge
                exact z (Int32.toInt_inj.mp (by rw [zm]; omega))
              · rw [q2 z y, w2 z y]
              · rw [q3 k hk e, w3 k hk e]
          refine ⟨fun y => ?_, fun y => ?_⟩
          · rw [gl_1, nI_eq (by omega) (by decide)] at y
            unfold p_X6_shadowOf_k1
            refine s_X6_gatherRows hn hv hC1 (fun sc1 g1 => s_X6_castShadow (dark := true) g1 hN hsm hv rfl (fun dc1 g2 => ?_))
            exact cls true (decide_eq_true y).symm dc1 g2 (fun r => p_X11_row rm sm now rows shadow (nI v) (nI s) a3 (nI i) (fun r8 y9 y10 y11 y12 => r = r8 ∧ X _ _ _ _ _ _ y9 y10 y11 y12)) (fun r hr => fin true (decide_eq_true y).symm shadow _ (fun r2 w1 w2 w3 _ _ _ _ => ⟨same true r r2 hr w1 w2 w3, hX _ _ _ _ _ _ _ _ _ _⟩))
          · rw [gl_1, nI_eq (by omega) (by decide)] at y
            unfold p_X6_shadowOf_k0
            refine s_X6_gatherRows hn hv hC1 (fun sc1 g1 => s_X6_castShadow (dark := false) g1 hN hsm hv rfl (fun rc1 g2 => ?_))
            exact cls false (decide_eq_false y).symm rc1 g2 (fun r => p_X11_row rm sm now rows shadow (nI v) (nI s) a3 (nI i) (fun r8 y9 y10 y11 y12 => r = r8 ∧ X _ _ _ _ _ _ y9 y10 y11 y12)) (fun r hr => fin false (decide_eq_false y).symm shadow _ (fun r2 w1 w2 w3 _ _ _ _ => ⟨same false r r2 hr w1 w2 w3, hX _ _ _ _ _ _ _ _ _ _⟩))
      · have bad : ∀ Q : Int32 → Int32 → Int32 → (Nat → Int32) → (Nat → Int32) → Prop, Q (-1000001) rm sm rows shadow → p_X11_row rm sm now rows shadow (nI v) (nI s) a3 a4 Q := by
          intro Q h
          unfold p_X11_row p_X11_isVariable
          exact s_iR_in hv (by decide) (by decide) ⟨rfl, ⟨g10, fun _ => s_iR_in hs (by decide) (by decide) ⟨g10, fun _ => s_iR_out hi (by decide) (by decide) ⟨fun _ => h, g00⟩⟩⟩⟩
        exact ⟨fun _ => bad _ ⟨rfl, hX _ _ _ _ _ _ _ _ _ _⟩, fun _ => s_oR_out hi (by decide) (by decide) rfl ⟨g10, fun _ => bad _ ⟨rfl, hX _ _ _ _ _ _ _ _ _ _⟩⟩⟩
    · refine s_oR_out hs (by decide) (by decide) rfl ⟨g10, fun _ => ?_⟩
      unfold p_X11_row p_X11_isVariable
      exact s_iR_in hv (by decide) (by decide) ⟨rfl, ⟨g10, fun _ => s_iR_out hs (by decide) (by decide) ⟨fun _ => ⟨rfl, hX _ _ _ _ _ _ _ _ _ _⟩, g00⟩⟩⟩
  · refine s_oR_out hv (by decide) (by decide) rfl ⟨rfl, ⟨g10, fun _ => ?_⟩⟩
    unfold p_X11_row p_X11_isVariable
    exact s_iR_out hv (by decide) (by decide) ⟨rfl, ⟨fun _ => ⟨rfl, hX _ _ _ _ _ _ _ _ _ _⟩, g00⟩⟩
