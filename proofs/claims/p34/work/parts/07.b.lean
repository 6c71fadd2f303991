abbrev rm_X9_saveTo : Room := { frames := 1, cells := 0, slots := 0, locals := 60 }
set_option maxHeartbeats 4000000 in
set_option maxRecDepth 100000 in
theorem c_X9_saveTo (l : Launch) (dC : Nat → ClassId) (dI : Nat → Nat → Nat) (cI cJ cC cZ : ClassId) (h_t h_t_cells h_a1 : Nat) (sz : Nat) (n_a1 : Nat) (t_size : Int32) (t_most : Int32) (t_draw : Int32) (t_changes : Int32) (t_cells : Nat → Int32) (a1 : Nat → Int32) (x2 : Int32) (Q : (Nat → Int32) → Prop) (hw : p_X9_saveTo n_a1 t_size t_most t_draw t_cells a1 x2 Q) : Met l yX9_saveTo wsX9_saveTo rm_X9_saveTo (va_Pc [.ref h_t, .ref h_a1, .int x2] (gz_B (dC, dI) (gz_T cI cJ cC cZ) [] sz [(h_t, .inr (6, [.ref h_t_cells, .int t_size, .int t_most, .int t_draw, .int t_changes])), (h_t_cells, .inl (cI, 48, .inl t_cells)), (h_a1, .inl (cI, n_a1, .inl a1))])) (va_Qv (fun (u : (Nat → Int32)) => Q u) (fun u t => gz_E (dC, dI) (gz_T cI cJ cC cZ) (va_A [(h_t, .inr (6, [.ref h_t_cells, .int t_size, .int t_most, .int t_draw, .int t_changes])), (h_t_cells, .inl (cI, 48, .inl t_cells)), (h_a1, .inl (cI, n_a1, .inl a1))] sz) [(h_t, .inr (6, [.ref h_t_cells, .int t_size, .int t_most, .int t_draw, .int t_changes])), (h_t_cells, .inl (cI, 48, .inl t_cells)), (h_a1, .inl (cI, n_a1, .inl u))] t) (va_A [(h_t, .inr (6, [.ref h_t_cells, .int t_size, .int t_most, .int t_draw, .int t_changes])), (h_t_cells, .inl (cI, 48, .inl t_cells)), (h_a1, .inl (cI, n_a1, .inl a1))] sz)) 0 0 (va_A [(h_t, .inr (6, [.ref h_t_cells, .int t_size, .int t_most, .int t_draw, .int t_changes])), (h_t_cells, .inl (cI, 48, .inl t_cells)), (h_a1, .inl (cI, n_a1, .inl a1))] sz) := by
  refine gz_mv (cc := cX9_saveTo) (maxL := 3) (plainFor_of_name (by decide +kernel)) rfl (Nat.le_of_ble_eq_true rfl) ?_
  intro p e s m below meth c A QQ ls hx hb hml hown0 hts hK hN hA hP hD hS hl ret
  have hown : s.vm.findClass RX9 = some m.cls := hown0
  have hl : lv_has ls 3 [(0, .ref h_t), (1, .ref h_a1), (2, .int x2)] := hl
  have q0 := hts (.fieldLink RX9 11 "DarkShadows$Told" "cells" "[I") (List.mem_cons_of_mem _ (List.mem_append_left _ (List.mem_of_getElem? (i := 0) rfl)))
  have hinX9 : ∀ w ∈ wsX90, w ∈ wsX9_saveTo := fun w h => List.mem_cons_of_mem _ (List.mem_append_right _ h)
  have q2 := hts (.methodLink RX9 37 arraycopyName) (List.mem_cons_of_mem _ (List.mem_append_left _ (List.mem_of_getElem? (i := 1) rfl)))
  have q3 := hts (.native arraycopyName) (List.mem_cons_of_mem _ (List.mem_append_left _ (List.mem_of_getElem? (i := 2) rfl)))
  have q4 := hts (.static arraycopyName) (List.mem_cons_of_mem _ (List.mem_append_left _ (List.mem_of_getElem? (i := 3) rfl)))
  have q5 := hts (.initialized "java/lang/System") (List.mem_cons_of_mem _ (List.mem_append_left _ (List.mem_of_getElem? (i := 4) rfl)))
  have q6 := hts (.fieldLink RX9 30 "DarkShadows$Told" "size" "I") (List.mem_cons_of_mem _ (List.mem_append_left _ (List.mem_of_getElem? (i := 5) rfl)))
  have q7 := hts (.fieldLink RX9 15 "DarkShadows$Told" "most" "I") (List.mem_cons_of_mem _ (List.mem_append_left _ (List.mem_of_getElem? (i := 6) rfl)))
  have q8 := hts (.fieldLink RX9 19 "DarkShadows$Told" "draw" "I") (List.mem_cons_of_mem _ (List.mem_append_left _ (List.mem_of_getElem? (i := 7) rfl)))
  have hf := hw
  refine lv_aload_n hx hb dX9_saveTo_0 rfl (lv_at hl 0 rfl) ?_
  refine va_get (D := (dC, dI)) (ci := 6) (v := .ref h_t_cells) (C := RX9) (T := TX9) (N := 5) hx hb hts hinX9 hown hK hP 0 rfl rfl 0 (by decide) q0 (fun _ h9 => h9) rfl dX9_saveTo_1 ?_
  refine lv_iconst (v := (0 : Int32)) hx hb dX9_saveTo_4 (by decide) ?_
  refine lv_aload_n hx hb dX9_saveTo_5 rfl (lv_at hl 1 rfl) ?_
  refine lv_iload_n hx hb dX9_saveTo_6 rfl (lv_at hl 2 rfl) ?_
  refine lv_bipush (v := (48 : Int32)) hx hb dX9_saveTo_7 (by decide) ?_
  obtain ⟨hb4, hb5, hb6, hb7, hb8, hf⟩ := hf
  refine va_copyi (rest := []) hx hb (hml.trans hl.1.symm) hown q2 q3 q4 q5 hK hP hD hS 1 2 0 0 rfl rfl rfl rfl rfl hb4 hb5 hb6 hb7 hb8 (fun _ _ => rfl) (Nat.le_of_ble_eq_true rfl) (Nat.le_of_ble_eq_true (by decide +kernel)) dX9_saveTo_9 (fun H locs hP hD hS => ?_)
  have hP : va_P (dC, dI) vwCl [(h_t, .inr (6, [.ref h_t_cells, .int t_size, .int t_most, .int t_draw, .int t_changes])), (h_t_cells, .inl (cI, 48, .inl t_cells)), (h_a1, .inl (cI, n_a1, .inl (va_cpy t_cells a1 (0 : Int32).toNatClampNeg x2.toNatClampNeg (48 : Int32).toNatClampNeg)))] H := hP
  have hD : va_D A [(h_t, .inr (6, [.ref h_t_cells, .int t_size, .int t_most, .int t_draw, .int t_changes])), (h_t_cells, .inl (cI, 48, .inl t_cells)), (h_a1, .inl (cI, n_a1, .inl (va_cpy t_cells a1 (0 : Int32).toNatClampNeg x2.toNatClampNeg (48 : Int32).toNatClampNeg)))] := hD
  refine lv_aload_n hx hb dX9_saveTo_12 rfl (lv_at hl 1 rfl) ?_
  refine lv_iload_n hx hb dX9_saveTo_13 rfl (lv_at hl 2 rfl) ?_
  refine lv_bipush (v := (48 : Int32)) hx hb dX9_saveTo_14 (by decide) ?_
  refine lv_iadd hx hb dX9_saveTo_16 ?_
  refine lv_aload_n hx hb dX9_saveTo_17 rfl (lv_at hl 0 rfl) ?_
  refine va_get (D := (dC, dI)) (ci := 6) (v := .int t_size) (C := RX9) (T := TX9) (N := 5) hx hb hts hinX9 hown hK hP 0 rfl rfl 1 (by decide) q6 (fun _ h9 => h9) rfl dX9_saveTo_18 ?_
  obtain ⟨hb1, hf⟩ := hf
  refine va_iast hx hb hK hP hD hS 2 0 rfl rfl hb1 dX9_saveTo_21 (fun H locs hP hD hS => ?_)
  have hP : va_P (dC, dI) vwCl [(h_t, .inr (6, [.ref h_t_cells, .int t_size, .int t_most, .int t_draw, .int t_changes])), (h_t_cells, .inl (cI, 48, .inl t_cells)), (h_a1, .inl (cI, n_a1, .inl (upd (va_cpy t_cells a1 (0 : Int32).toNatClampNeg x2.toNatClampNeg (48 : Int32).toNatClampNeg) (x2 + (48 : Int32)).toNatClampNeg t_size)))] H := hP
  have hD : va_D A [(h_t, .inr (6, [.ref h_t_cells, .int t_size, .int t_most, .int t_draw, .int t_changes])), (h_t_cells, .inl (cI, 48, .inl t_cells)), (h_a1, .inl (cI, n_a1, .inl (upd (va_cpy t_cells a1 (0 : Int32).toNatClampNeg x2.toNatClampNeg (48 : Int32).toNatClampNeg) (x2 + (48 : Int32)).toNatClampNeg t_size)))] := hD
  refine lv_aload_n hx hb dX9_saveTo_22 rfl (lv_at hl 1 rfl) ?_
  refine lv_iload_n hx hb dX9_saveTo_23 rfl (lv_at hl 2 rfl) ?_
  refine lv_bipush (v := (48 : Int32)) hx hb dX9_saveTo_24 (by decide) ?_
  refine lv_iadd hx hb dX9_saveTo_26 ?_
  refine lv_iconst (v := (1 : Int32)) hx hb dX9_saveTo_27 (by decide) ?_
  refine lv_iadd hx hb dX9_saveTo_28 ?_
  refine lv_aload_n hx hb dX9_saveTo_29 rfl (lv_at hl 0 rfl) ?_
  refine va_get (D := (dC, dI)) (ci := 6) (v := .int t_most) (C := RX9) (T := TX9) (N := 5) hx hb hts hinX9 hown hK hP 0 rfl rfl 2 (by decide) q7 (fun _ h9 => h9) rfl dX9_saveTo_30 ?_
  obtain ⟨hb2, hf⟩ := hf
  refine va_iast hx hb hK hP hD hS 2 0 rfl rfl hb2 dX9_saveTo_33 (fun H locs hP hD hS => ?_)
  have hP : va_P (dC, dI) vwCl [(h_t, .inr (6, [.ref h_t_cells, .int t_size, .int t_most, .int t_draw, .int t_changes])), (h_t_cells, .inl (cI, 48, .inl t_cells)), (h_a1, .inl (cI, n_a1, .inl (upd (upd (va_cpy t_cells a1 (0 : Int32).toNatClampNeg x2.toNatClampNeg (48 : Int32).toNatClampNeg) (x2 + (48 : Int32)).toNatClampNeg t_size) ((x2 + (48 : Int32)) + (1 : Int32)).toNatClampNeg t_most)))] H := hP
  have hD : va_D A [(h_t, .inr (6, [.ref h_t_cells, .int t_size, .int t_most, .int t_draw, .int t_changes])), (h_t_cells, .inl (cI, 48, .inl t_cells)), (h_a1, .inl (cI, n_a1, .inl (upd (upd (va_cpy t_cells a1 (0 : Int32).toNatClampNeg x2.toNatClampNeg (48 : Int32).toNatClampNeg) (x2 + (48 : Int32)).toNatClampNeg t_size) ((x2 + (48 : Int32)) + (1 : Int32)).toNatClampNeg t_most)))] := hD
  refine lv_aload_n hx hb dX9_saveTo_34 rfl (lv_at hl 1 rfl) ?_
  refine lv_iload_n hx hb dX9_saveTo_35 rfl (lv_at hl 2 rfl) ?_
  refine lv_bipush (v := (48 : Int32)) hx hb dX9_saveTo_36 (by decide) ?_
  refine lv_iadd hx hb dX9_saveTo_38 ?_
  refine lv_iconst (v := (2 : Int32)) hx hb dX9_saveTo_39 (by decide) ?_
  refine lv_iadd hx hb dX9_saveTo_40 ?_
  refine lv_aload_n hx hb dX9_saveTo_41 rfl (lv_at hl 0 rfl) ?_
  refine va_get (D := (dC, dI)) (ci := 6) (v := .int t_draw) (C := RX9) (T := TX9) (N := 5) hx hb hts hinX9 hown hK hP 0 rfl rfl 3 (by decide) q8 (fun _ h9 => h9) rfl dX9_saveTo_42 ?_
  obtain ⟨hb3, hf⟩ := hf
  refine va_iast hx hb hK hP hD hS 2 0 rfl rfl hb3 dX9_saveTo_45 (fun H locs hP hD hS => ?_)
  have hP : va_P (dC, dI) vwCl [(h_t, .inr (6, [.ref h_t_cells, .int t_size, .int t_most, .int t_draw, .int t_changes])), (h_t_cells, .inl (cI, 48, .inl t_cells)), (h_a1, .inl (cI, n_a1, .inl (upd (upd (upd (va_cpy t_cells a1 (0 : Int32).toNatClampNeg x2.toNatClampNeg (48 : Int32).toNatClampNeg) (x2 + (48 : Int32)).toNatClampNeg t_size) ((x2 + (48 : Int32)) + (1 : Int32)).toNatClampNeg t_most) ((x2 + (48 : Int32)) + (2 : Int32)).toNatClampNeg t_draw)))] H := hP
  have hD : va_D A [(h_t, .inr (6, [.ref h_t_cells, .int t_size, .int t_most, .int t_draw, .int t_changes])), (h_t_cells, .inl (cI, 48, .inl t_cells)), (h_a1, .inl (cI, n_a1, .inl (upd (upd (upd (va_cpy t_cells a1 (0 : Int32).toNatClampNeg x2.toNatClampNeg (48 : Int32).toNatClampNeg) (x2 + (48 : Int32)).toNatClampNeg t_size) ((x2 + (48 : Int32)) + (1 : Int32)).toNatClampNeg t_most) ((x2 + (48 : Int32)) + (2 : Int32)).toNatClampNeg t_draw)))] := hD
  exact ret _ _ _ _ (upd (upd (upd (va_cpy t_cells a1 (0 : Int32).toNatClampNeg x2.toNatClampNeg (48 : Int32).toNatClampNeg) (x2 + (48 : Int32)).toNatClampNeg t_size) ((x2 + (48 : Int32)) + (1 : Int32)).toNatClampNeg t_most) ((x2 + (48 : Int32)) + (2 : Int32)).toNatClampNeg t_draw) hf hP hD hS dX9_saveTo_46
abbrev rm_X0_keep : Room := { frames := 2, cells := 0, slots := 0, locals := 82 }
set_option maxHeartbeats 4000000 in
set_option maxRecDepth 100000 in
theorem c_X0_keep (l : Launch) (dC : Nat → ClassId) (dI : Nat → Nat → Nat) (cI cJ cC cZ : ClassId) (h_t h_t_now h_t_past h_t_now_cells : Nat) (sz : Nat) (t_known : Int32) (t_now_size : Int32) (t_now_most : Int32) (t_now_draw : Int32) (t_now_changes : Int32) (t_now_cells : Nat → Int32) (t_past : Nat → Int32) (Q : Int32 → (Nat → Int32) → Prop) (hw : p_X0_keep t_known t_now_size t_now_most t_now_draw t_now_cells t_past Q) : Met l yX0_keep wsX0_keep rm_X0_keep (va_Pc [.ref h_t] (gz_B (dC, dI) (gz_T cI cJ cC cZ) [] sz [(h_t, .inr (0, [.ref h_t_now, .ref h_t_past, .int t_known])), (h_t_now, .inr (6, [.ref h_t_now_cells, .int t_now_size, .int t_now_most, .int t_now_draw, .int t_now_changes])), (h_t_now_cells, .inl (cI, 48, .inl t_now_cells)), (h_t_past, .inl (cI, 408, .inl t_past))])) (va_Qv (fun (u : Int32 × (Nat → Int32)) => Q u.1 u.2) (fun u t => gz_E (dC, dI) (gz_T cI cJ cC cZ) (va_A [(h_t, .inr (0, [.ref h_t_now, .ref h_t_past, .int t_known])), (h_t_now, .inr (6, [.ref h_t_now_cells, .int t_now_size, .int t_now_most, .int t_now_draw, .int t_now_changes])), (h_t_now_cells, .inl (cI, 48, .inl t_now_cells)), (h_t_past, .inl (cI, 408, .inl t_past))] sz) [(h_t, .inr (0, [.ref h_t_now, .ref h_t_past, .int u.1])), (h_t_now, .inr (6, [.ref h_t_now_cells, .int t_now_size, .int t_now_most, .int t_now_draw, .int t_now_changes])), (h_t_now_cells, .inl (cI, 48, .inl t_now_cells)), (h_t_past, .inl (cI, 408, .inl u.2))] t) (va_A [(h_t, .inr (0, [.ref h_t_now, .ref h_t_past, .int t_known])), (h_t_now, .inr (6, [.ref h_t_now_cells, .int t_now_size, .int t_now_most, .int t_now_draw, .int t_now_changes])), (h_t_now_cells, .inl (cI, 48, .inl t_now_cells)), (h_t_past, .inl (cI, 408, .inl t_past))] sz)) 0 0 (va_A [(h_t, .inr (0, [.ref h_t_now, .ref h_t_past, .int t_known])), (h_t_now, .inr (6, [.ref h_t_now_cells, .int t_now_size, .int t_now_most, .int t_now_draw, .int t_now_changes])), (h_t_now_cells, .inl (cI, 48, .inl t_now_cells)), (h_t_past, .inl (cI, 408, .inl t_past))] sz) := by
  refine gz_mv (cc := cX0_keep) (maxL := 1) (plainFor_of_name (by decide +kernel)) rfl (Nat.le_of_ble_eq_true rfl) ?_
  intro p e s m below meth c A QQ ls hx hb hml hown0 hts hK hN hA hP hD hS hl ret
  have hown : s.vm.findClass RX0 = some m.cls := hown0
  have hl : lv_has ls 1 [(0, .ref h_t)] := hl
  have q0 := hts (.fieldLink RX0 20 "DarkShadows$Book" "known" "I") (List.mem_cons_of_mem _ (List.mem_append_left _ (List.mem_append_left _ (List.mem_of_getElem? (i := 0) rfl))))
  have hinX0 : ∀ w ∈ wsX00, w ∈ wsX0_keep := fun w h => List.mem_cons_of_mem _ (List.mem_append_left _ (List.mem_append_right _ h))
  have q2 := hts (.fieldLink RX0 10 "DarkShadows$Book" "now" "LDarkShadows$Told;") (List.mem_cons_of_mem _ (List.mem_append_left _ (List.mem_append_left _ (List.mem_of_getElem? (i := 6) rfl))))
  have q3 := hts (.fieldLink RX0 16 "DarkShadows$Book" "past" "[I") (List.mem_cons_of_mem _ (List.mem_append_left _ (List.mem_append_left _ (List.mem_of_getElem? (i := 1) rfl))))
  have q4 := hts (.methodLink RX0 24 arraycopyName) (List.mem_cons_of_mem _ (List.mem_append_left _ (List.mem_append_left _ (List.mem_of_getElem? (i := 2) rfl))))
  have q5 := hts (.native arraycopyName) (List.mem_cons_of_mem _ (List.mem_append_left _ (List.mem_append_left _ (List.mem_of_getElem? (i := 3) rfl))))
  have q6 := hts (.static arraycopyName) (List.mem_cons_of_mem _ (List.mem_append_left _ (List.mem_append_left _ (List.mem_of_getElem? (i := 4) rfl))))
  have q7 := hts (.initialized "java/lang/System") (List.mem_cons_of_mem _ (List.mem_append_left _ (List.mem_append_left _ (List.mem_of_getElem? (i := 5) rfl))))
  have L40 : ∀ (t_known : Int32) (t_past : Nat → Int32) (H : Heap) (locs : List Loc) (ls : Array Slot), p_X0_keep_40 t_known t_now_size t_now_most t_now_draw t_now_cells t_past Q → va_P (dC, dI) vwCl [(h_t, .inr (0, [.ref h_t_now, .ref h_t_past, .int t_known])), (h_t_now, .inr (6, [.ref h_t_now_cells, .int t_now_size, .int t_now_most, .int t_now_draw, .int t_now_changes])), (h_t_now_cells, .inl (cI, 48, .inl t_now_cells)), (h_t_past, .inl (cI, 408, .inl t_past))] H → va_D A [(h_t, .inr (0, [.ref h_t_now, .ref h_t_past, .int t_known])), (h_t_now, .inr (6, [.ref h_t_now_cells, .int t_now_size, .int t_now_most, .int t_now_draw, .int t_now_changes])), (h_t_now_cells, .inl (cI, 48, .inl t_now_cells)), (h_t_past, .inl (cI, 408, .inl t_past))] → va_S A s.heap H locs → lv_has ls 1 [(0, .ref h_t)] → W p l e rm_X0_keep s m [.ref h_t].toArray below meth c H locs 0 0 QQ (F0 m 40 ls []) := by
    intro t_known t_past H locs ls hf hP hD hS hl
    refine lv_aload_n hx hb dX0_keep_40 rfl (lv_at hl 0 rfl) ?_
    refine va_get (D := (dC, dI)) (ci := 0) (v := .ref h_t_now) (C := RX0) (T := TX0) (N := 3) hx hb hts hinX0 hown hK hP 0 rfl rfl 0 (by decide) q2 (fun _ h9 => h9) rfl dX0_keep_41 ?_
    refine lv_aload_n hx hb dX0_keep_44 rfl (lv_at hl 0 rfl) ?_
    refine va_get (D := (dC, dI)) (ci := 0) (v := .ref h_t_past) (C := RX0) (T := TX0) (N := 3) hx hb hts hinX0 hown hK hP 0 rfl rfl 1 (by decide) q3 (fun _ h9 => h9) rfl dX0_keep_45 ?_
    refine lv_aload_n hx hb dX0_keep_48 rfl (lv_at hl 0 rfl) ?_
    refine va_get (D := (dC, dI)) (ci := 0) (v := .int t_known) (C := RX0) (T := TX0) (N := 3) hx hb hts hinX0 hown hK hP 0 rfl rfl 2 (by decide) q0 (fun _ h9 => h9) rfl dX0_keep_49 ?_
    refine lv_bipush (v := (51 : Int32)) hx hb dX0_keep_52 (by decide) ?_
    refine lv_imul hx hb dX0_keep_54 ?_
    refine gz_v (W1 := (fun u : (Nat → Int32) => [(h_t_now, .inr (6, [.ref h_t_now_cells, .int t_now_size, .int t_now_most, .int t_now_draw, .int t_now_changes])), (h_t_now_cells, .inl (cI, 48, .inl t_now_cells)), (h_t_past, .inl (cI, 408, .inl u))])) (wn := (fun u : (Nat → Int32) => [(h_t, .inr (0, [.ref h_t_now, .ref h_t_past, .int t_known])), (h_t_now, .inr (6, [.ref h_t_now_cells, .int t_now_size, .int t_now_most, .int t_now_draw, .int t_now_changes])), (h_t_now_cells, .inl (cI, 48, .inl t_now_cells)), (h_t_past, .inl (cI, 408, .inl u))])) (wr := [(h_t, .inr (0, [.ref h_t_now, .ref h_t_past, .int t_known]))]) (va_runV (As := [.ref h_t_past, .int (t_known * (51 : Int32))]) (rest := []) ⟨hx, hb, hml, hown, hts⟩ (c_X9_saveTo l dC dI cI cJ cC cZ h_t_now h_t_now_cells h_t_past H.size 408 t_now_size t_now_most t_now_draw t_now_changes t_now_cells t_past (t_known * (51 : Int32)) _ hf) (cwV 2 hts gX0_keep_X9_saveTo rfl rfl rfl (by decide +kernel) ⟨Nat.le_of_ble_eq_true rfl, Nat.le_of_ble_eq_true rfl⟩) ⟨gz_blind, va_recv hK hP (ci := 6) (q0 := 1) rfl rfl, gz_pre (gz_P_of hP (is := [1, 2, 3]) (wc := [(h_t_now, .inr (6, [.ref h_t_now_cells, .int t_now_size, .int t_now_most, .int t_now_draw, .int t_now_changes])), (h_t_now_cells, .inl (cI, 48, .inl t_now_cells)), (h_t_past, .inl (cI, 408, .inl t_past))]) rfl) hK (hD.sub [1, 2, 3] (by decide) rfl) gz_N0⟩ rfl rfl hl.1 rfl (lv_room (Nat.le_of_ble_eq_true rfl)) dX0_keep_55 ⟨Nat.le_refl _, Nat.le_refl _⟩) hP hD hS hA [1, 2, 3] [0] [0, 1, 2, 3] rfl rfl (by decide) (by decide) (fun _ => rfl) (by decide) (fun  y1 H locs hf hP hD hS => ?_)
    have hP : va_P (dC, dI) vwCl [(h_t, .inr (0, [.ref h_t_now, .ref h_t_past, .int t_known])), (h_t_now, .inr (6, [.ref h_t_now_cells, .int t_now_size, .int t_now_most, .int t_now_draw, .int t_now_changes])), (h_t_now_cells, .inl (cI, 48, .inl t_now_cells)), (h_t_past, .inl (cI, 408, .inl y1))] H := hP
    have hD : va_D A [(h_t, .inr (0, [.ref h_t_now, .ref h_t_past, .int t_known])), (h_t_now, .inr (6, [.ref h_t_now_cells, .int t_now_size, .int t_now_most, .int t_now_draw, .int t_now_changes])), (h_t_now_cells, .inl (cI, 48, .inl t_now_cells)), (h_t_past, .inl (cI, 408, .inl y1))] := hD
    refine lv_aload_n hx hb dX0_keep_58 rfl (lv_at hl 0 rfl) ?_
    refine lv_dup hx hb dX0_keep_59 rfl ?_
    refine va_get (D := (dC, dI)) (ci := 0) (v := .int t_known) (C := RX0) (T := TX0) (N := 3) hx hb hts hinX0 hown hK hP 0 rfl rfl 2 (by decide) q0 (fun _ h9 => h9) rfl dX0_keep_60 ?_
    refine lv_iconst (v := (1 : Int32)) hx hb dX0_keep_63 (by decide) ?_
    refine lv_iadd hx hb dX0_keep_64 ?_
    refine va_put (D := (dC, dI)) (ci := 0) (v := .int (t_known + (1 : Int32))) (ty := .int) (C := RX0) (T := TX0) (N := 3) hx hb hts hinX0 tyX0 tyX0_ok nmX0 hown hK hP hD hS 0 rfl rfl 2 (by decide) q0 (fun _ h9 => h9) rfl (by decide +kernel) rfl rfl (Nat.le_of_ble_eq_true rfl) dX0_keep_65 (fun H locs hP hD hS => ?_)
    have hP : va_P (dC, dI) vwCl [(h_t, .inr (0, [.ref h_t_now, .ref h_t_past, .int (t_known + (1 : Int32))])), (h_t_now, .inr (6, [.ref h_t_now_cells, .int t_now_size, .int t_now_most, .int t_now_draw, .int t_now_changes])), (h_t_now_cells, .inl (cI, 48, .inl t_now_cells)), (h_t_past, .inl (cI, 408, .inl y1))] H := hP
    have hD : va_D A [(h_t, .inr (0, [.ref h_t_now, .ref h_t_past, .int (t_known + (1 : Int32))])), (h_t_now, .inr (6, [.ref h_t_now_cells, .int t_now_size, .int t_now_most, .int t_now_draw, .int t_now_changes])), (h_t_now_cells, .inl (cI, 48, .inl t_now_cells)), (h_t_past, .inl (cI, 408, .inl y1))] := hD
    exact ret _ _ _ _ ((t_known + (1 : Int32)), y1) hf hP hD hS dX0_keep_68
  have hf := hw
  refine lv_aload_n hx hb dX0_keep_0 rfl (lv_at hl 0 rfl) ?_
  refine va_get (D := (dC, dI)) (ci := 0) (v := .int t_known) (C := RX0) (T := TX0) (N := 3) hx hb hts hinX0 hown hK hP 0 rfl rfl 2 (by decide) q0 (fun _ h9 => h9) rfl dX0_keep_1 ?_
  refine lv_bipush (v := (8 : Int32)) hx hb dX0_keep_4 (by decide) ?_
  refine lv_icmp_ne (tgt := 40) hx hb dX0_keep_6 (by decide) (fun hc7 => ?_) (fun hc7 => ?_)
  · have hf := hf.2 hc7
    exact L40 t_known t_past _ _ _ hf hP hD hS hl
  · have hf := hf.1 hc7
    refine lv_aload_n hx hb dX0_keep_9 rfl (lv_at hl 0 rfl) ?_
    refine lv_dup hx hb dX0_keep_10 rfl ?_
    refine va_get (D := (dC, dI)) (ci := 0) (v := .int t_known) (C := RX0) (T := TX0) (N := 3) hx hb hts hinX0 hown hK hP 0 rfl rfl 2 (by decide) q0 (fun _ h9 => h9) rfl dX0_keep_11 ?_
    refine lv_iconst (v := (1 : Int32)) hx hb dX0_keep_14 (by decide) ?_
    refine lv_isub hx hb dX0_keep_15 ?_
    refine va_put (D := (dC, dI)) (ci := 0) (v := .int (t_known - (1 : Int32))) (ty := .int) (C := RX0) (T := TX0) (N := 3) hx hb hts hinX0 tyX0 tyX0_ok nmX0 hown hK hP hD hS 0 rfl rfl 2 (by decide) q0 (fun _ h9 => h9) rfl (by decide +kernel) rfl rfl (Nat.le_of_ble_eq_true rfl) dX0_keep_16 (fun H locs hP hD hS => ?_)
    have hP : va_P (dC, dI) vwCl [(h_t, .inr (0, [.ref h_t_now, .ref h_t_past, .int (t_known - (1 : Int32))])), (h_t_now, .inr (6, [.ref h_t_now_cells, .int t_now_size, .int t_now_most, .int t_now_draw, .int t_now_changes])), (h_t_now_cells, .inl (cI, 48, .inl t_now_cells)), (h_t_past, .inl (cI, 408, .inl t_past))] H := hP
    have hD : va_D A [(h_t, .inr (0, [.ref h_t_now, .ref h_t_past, .int (t_known - (1 : Int32))])), (h_t_now, .inr (6, [.ref h_t_now_cells, .int t_now_size, .int t_now_most, .int t_now_draw, .int t_now_changes])), (h_t_now_cells, .inl (cI, 48, .inl t_now_cells)), (h_t_past, .inl (cI, 408, .inl t_past))] := hD
    refine lv_aload_n hx hb dX0_keep_19 rfl (lv_at hl 0 rfl) ?_
    refine va_get (D := (dC, dI)) (ci := 0) (v := .ref h_t_past) (C := RX0) (T := TX0) (N := 3) hx hb hts hinX0 hown hK hP 0 rfl rfl 1 (by decide) q3 (fun _ h9 => h9) rfl dX0_keep_20 ?_
    refine lv_bipush (v := (51 : Int32)) hx hb dX0_keep_23 (by decide) ?_
    refine lv_aload_n hx hb dX0_keep_25 rfl (lv_at hl 0 rfl) ?_
    refine va_get (D := (dC, dI)) (ci := 0) (v := .ref h_t_past) (C := RX0) (T := TX0) (N := 3) hx hb hts hinX0 hown hK hP 0 rfl rfl 1 (by decide) q3 (fun _ h9 => h9) rfl dX0_keep_26 ?_
    refine lv_iconst (v := (0 : Int32)) hx hb dX0_keep_29 (by decide) ?_
    refine lv_aload_n hx hb dX0_keep_30 rfl (lv_at hl 0 rfl) ?_
    refine va_get (D := (dC, dI)) (ci := 0) (v := .int (t_known - (1 : Int32))) (C := RX0) (T := TX0) (N := 3) hx hb hts hinX0 hown hK hP 0 rfl rfl 2 (by decide) q0 (fun _ h9 => h9) rfl dX0_keep_31 ?_
    refine lv_bipush (v := (51 : Int32)) hx hb dX0_keep_34 (by decide) ?_
    refine lv_imul hx hb dX0_keep_36 ?_
    obtain ⟨hb2, hb3, hb4, hb5, hb6, hf⟩ := hf
    refine va_copyi (rest := []) hx hb (hml.trans hl.1.symm) hown q4 q5 q6 q7 hK hP hD hS 3 3 0 0 rfl rfl rfl rfl rfl hb2 hb3 hb4 hb5 hb6 (fun _ _ => rfl) (Nat.le_of_ble_eq_true rfl) (Nat.le_of_ble_eq_true (by decide +kernel)) dX0_keep_37 (fun H locs hP hD hS => ?_)
    have hP : va_P (dC, dI) vwCl [(h_t, .inr (0, [.ref h_t_now, .ref h_t_past, .int (t_known - (1 : Int32))])), (h_t_now, .inr (6, [.ref h_t_now_cells, .int t_now_size, .int t_now_most, .int t_now_draw, .int t_now_changes])), (h_t_now_cells, .inl (cI, 48, .inl t_now_cells)), (h_t_past, .inl (cI, 408, .inl (va_cpy t_past t_past (51 : Int32).toNatClampNeg (0 : Int32).toNatClampNeg ((t_known - (1 : Int32)) * (51 : Int32)).toNatClampNeg)))] H := hP
    have hD : va_D A [(h_t, .inr (0, [.ref h_t_now, .ref h_t_past, .int (t_known - (1 : Int32))])), (h_t_now, .inr (6, [.ref h_t_now_cells, .int t_now_size, .int t_now_most, .int t_now_draw, .int t_now_changes])), (h_t_now_cells, .inl (cI, 48, .inl t_now_cells)), (h_t_past, .inl (cI, 408, .inl (va_cpy t_past t_past (51 : Int32).toNatClampNeg (0 : Int32).toNatClampNeg ((t_known - (1 : Int32)) * (51 : Int32)).toNatClampNeg)))] := hD
    exact L40 (t_known - (1 : Int32)) (va_cpy t_past t_past (51 : Int32).toNatClampNeg (0 : Int32).toNatClampNeg ((t_known - (1 : Int32)) * (51 : Int32)).toNatClampNeg) _ _ _ hf hP hD hS hl
abbrev rm_X9_loadFrom : Room := { frames := 1, cells := 0, slots := 0, locals := 60 }
set_option maxHeartbeats 4000000 in
set_option maxRecDepth 100000 in
theorem c_X9_loadFrom (l : Launch) (dC : Nat → ClassId) (dI : Nat → Nat → Nat) (cI cJ cC cZ : ClassId) (h_t h_t_cells h_a1 : Nat) (sz : Nat) (n_a1 : Nat) (t_size : Int32) (t_most : Int32) (t_draw : Int32) (t_changes : Int32) (t_cells : Nat → Int32) (a1 : Nat → Int32) (x2 : Int32) (Q : Int32 → Int32 → Int32 → Int32 → (Nat → Int32) → Prop) (hw : p_X9_loadFrom n_a1 t_size t_most t_draw t_changes t_cells a1 x2 Q) : Met l yX9_loadFrom wsX9_loadFrom rm_X9_loadFrom (va_Pc [.ref h_t, .ref h_a1, .int x2] (gz_B (dC, dI) (gz_T cI cJ cC cZ) [] sz [(h_t, .inr (6, [.ref h_t_cells, .int t_size, .int t_most, .int t_draw, .int t_changes])), (h_t_cells, .inl (cI, 48, .inl t_cells)), (h_a1, .inl (cI, n_a1, .inl a1))])) (va_Qv (fun (u : Int32 × Int32 × Int32 × Int32 × (Nat → Int32)) => Q u.1 u.2.1 u.2.2.1 u.2.2.2.1 u.2.2.2.2) (fun u t => gz_E (dC, dI) (gz_T cI cJ cC cZ) (va_A [(h_t, .inr (6, [.ref h_t_cells, .int t_size, .int t_most, .int t_draw, .int t_changes])), (h_t_cells, .inl (cI, 48, .inl t_cells)), (h_a1, .inl (cI, n_a1, .inl a1))] sz) [(h_t, .inr (6, [.ref h_t_cells, .int u.1, .int u.2.1, .int u.2.2.1, .int u.2.2.2.1])), (h_t_cells, .inl (cI, 48, .inl u.2.2.2.2)), (h_a1, .inl (cI, n_a1, .inl a1))] t) (va_A [(h_t, .inr (6, [.ref h_t_cells, .int t_size, .int t_most, .int t_draw, .int t_changes])), (h_t_cells, .inl (cI, 48, .inl t_cells)), (h_a1, .inl (cI, n_a1, .inl a1))] sz)) 0 0 (va_A [(h_t, .inr (6, [.ref h_t_cells, .int t_size, .int t_most, .int t_draw, .int t_changes])), (h_t_cells, .inl (cI, 48, .inl t_cells)), (h_a1, .inl (cI, n_a1, .inl a1))] sz) := by
  refine gz_mv (cc := cX9_loadFrom) (maxL := 3) (plainFor_of_name (by decide +kernel)) rfl (Nat.le_of_ble_eq_true rfl) ?_
  intro p e s m below meth c A QQ ls hx hb hml hown0 hts hK hN hA hP hD hS hl ret
  have hown : s.vm.findClass RX9 = some m.cls := hown0
  have hl : lv_has ls 3 [(0, .ref h_t), (1, .ref h_a1), (2, .int x2)] := hl
  have q0 := hts (.fieldLink RX9 11 "DarkShadows$Told" "cells" "[I") (List.mem_cons_of_mem _ (List.mem_append_left _ (List.mem_of_getElem? (i := 0) rfl)))
  have hinX9 : ∀ w ∈ wsX90, w ∈ wsX9_loadFrom := fun w h => List.mem_cons_of_mem _ (List.mem_append_right _ h)
  have q2 := hts (.methodLink RX9 37 arraycopyName) (List.mem_cons_of_mem _ (List.mem_append_left _ (List.mem_of_getElem? (i := 1) rfl)))
  have q3 := hts (.native arraycopyName) (List.mem_cons_of_mem _ (List.mem_append_left _ (List.mem_of_getElem? (i := 2) rfl)))
  have q4 := hts (.static arraycopyName) (List.mem_cons_of_mem _ (List.mem_append_left _ (List.mem_of_getElem? (i := 3) rfl)))
  have q5 := hts (.initialized "java/lang/System") (List.mem_cons_of_mem _ (List.mem_append_left _ (List.mem_of_getElem? (i := 4) rfl)))
  have q6 := hts (.fieldLink RX9 30 "DarkShadows$Told" "size" "I") (List.mem_cons_of_mem _ (List.mem_append_left _ (List.mem_of_getElem? (i := 5) rfl)))
  have q7 := hts (.fieldLink RX9 15 "DarkShadows$Told" "most" "I") (List.mem_cons_of_mem _ (List.mem_append_left _ (List.mem_of_getElem? (i := 6) rfl)))
  have q8 := hts (.fieldLink RX9 19 "DarkShadows$Told" "draw" "I") (List.mem_cons_of_mem _ (List.mem_append_left _ (List.mem_of_getElem? (i := 7) rfl)))
  have q9 := hts (.fieldLink RX9 27 "DarkShadows$Told" "changes" "I") (List.mem_cons_of_mem _ (List.mem_append_left _ (List.mem_of_getElem? (i := 8) rfl)))
  have hf := hw
  refine lv_aload_n hx hb dX9_loadFrom_0 rfl (lv_at hl 1 rfl) ?_
  refine lv_iload_n hx hb dX9_loadFrom_1 rfl (lv_at hl 2 rfl) ?_
  refine lv_aload_n hx hb dX9_loadFrom_2 rfl (lv_at hl 0 rfl) ?_
  refine va_get (D := (dC, dI)) (ci := 6) (v := .ref h_t_cells) (C := RX9) (T := TX9) (N := 5) hx hb hts hinX9 hown hK hP 0 rfl rfl 0 (by decide) q0 (fun _ h9 => h9) rfl dX9_loadFrom_3 ?_
  refine lv_iconst (v := (0 : Int32)) hx hb dX9_loadFrom_6 (by decide) ?_
  refine lv_bipush (v := (48 : Int32)) hx hb dX9_loadFrom_7 (by decide) ?_
  obtain ⟨hb4, hb5, hb6, hb7, hb8, hf⟩ := hf
  refine va_copyi (rest := []) hx hb (hml.trans hl.1.symm) hown q2 q3 q4 q5 hK hP hD hS 2 1 0 0 rfl rfl rfl rfl rfl hb4 hb5 hb6 hb7 hb8 (fun _ _ => rfl) (Nat.le_of_ble_eq_true rfl) (Nat.le_of_ble_eq_true (by decide +kernel)) dX9_loadFrom_9 (fun H locs hP hD hS => ?_)
  have hP : va_P (dC, dI) vwCl [(h_t, .inr (6, [.ref h_t_cells, .int t_size, .int t_most, .int t_draw, .int t_changes])), (h_t_cells, .inl (cI, 48, .inl (va_cpy a1 t_cells x2.toNatClampNeg (0 : Int32).toNatClampNeg (48 : Int32).toNatClampNeg))), (h_a1, .inl (cI, n_a1, .inl a1))] H := hP
  have hD : va_D A [(h_t, .inr (6, [.ref h_t_cells, .int t_size, .int t_most, .int t_draw, .int t_changes])), (h_t_cells, .inl (cI, 48, .inl (va_cpy a1 t_cells x2.toNatClampNeg (0 : Int32).toNatClampNeg (48 : Int32).toNatClampNeg))), (h_a1, .inl (cI, n_a1, .inl a1))] := hD
  refine lv_aload_n hx hb dX9_loadFrom_12 rfl (lv_at hl 0 rfl) ?_
  refine lv_aload_n hx hb dX9_loadFrom_13 rfl (lv_at hl 1 rfl) ?_
  refine lv_iload_n hx hb dX9_loadFrom_14 rfl (lv_at hl 2 rfl) ?_
  refine lv_bipush (v := (48 : Int32)) hx hb dX9_loadFrom_15 (by decide) ?_
  refine lv_iadd hx hb dX9_loadFrom_17 ?_
  obtain ⟨hb1, hf⟩ := hf
  refine va_iald hx hb hK hP 2 0 rfl rfl hb1 dX9_loadFrom_18 ?_
  refine va_put (D := (dC, dI)) (ci := 6) (v := .int (a1 (x2 + (48 : Int32)).toNatClampNeg)) (ty := .int) (C := RX9) (T := TX9) (N := 5) hx hb hts hinX9 tyX9 tyX9_ok nmX9 hown hK hP hD hS 0 rfl rfl 1 (by decide) q6 (fun _ h9 => h9) rfl (by decide +kernel) rfl rfl (Nat.le_of_ble_eq_true rfl) dX9_loadFrom_19 (fun H locs hP hD hS => ?_)
  have hP : va_P (dC, dI) vwCl [(h_t, .inr (6, [.ref h_t_cells, .int (a1 (x2 + (48 : Int32)).toNatClampNeg), .int t_most, .int t_draw, .int t_changes])), (h_t_cells, .inl (cI, 48, .inl (va_cpy a1 t_cells x2.toNatClampNeg (0 : Int32).toNatClampNeg (48 : Int32).toNatClampNeg))), (h_a1, .inl (cI, n_a1, .inl a1))] H := hP
  have hD : va_D A [(h_t, .inr (6, [.ref h_t_cells, .int (a1 (x2 + (48 : Int32)).toNatClampNeg), .int t_most, .int t_draw, .int t_changes])), (h_t_cells, .inl (cI, 48, .inl (va_cpy a1 t_cells x2.toNatClampNeg (0 : Int32).toNatClampNeg (48 : Int32).toNatClampNeg))), (h_a1, .inl (cI, n_a1, .inl a1))] := hD
  refine lv_aload_n hx hb dX9_loadFrom_22 rfl (lv_at hl 0 rfl) ?_
  refine lv_aload_n hx hb dX9_loadFrom_23 rfl (lv_at hl 1 rfl) ?_
  refine lv_iload_n hx hb dX9_loadFrom_24 rfl (lv_at hl 2 rfl) ?_
  refine lv_bipush (v := (48 : Int32)) hx hb dX9_loadFrom_25 (by decide) ?_
  refine lv_iadd hx hb dX9_loadFrom_27 ?_
  refine lv_iconst (v := (1 : Int32)) hx hb dX9_loadFrom_28 (by decide) ?_
  refine lv_iadd hx hb dX9_loadFrom_29 ?_
  obtain ⟨hb2, hf⟩ := hf
  refine va_iald hx hb hK hP 2 0 rfl rfl hb2 dX9_loadFrom_30 ?_
  refine va_put (D := (dC, dI)) (ci := 6) (v := .int (a1 ((x2 + (48 : Int32)) + (1 : Int32)).toNatClampNeg)) (ty := .int) (C := RX9) (T := TX9) (N := 5) hx hb hts hinX9 tyX9 tyX9_ok nmX9 hown hK hP hD hS 0 rfl rfl 2 (by decide) q7 (fun _ h9 => h9) rfl (by decide +kernel) rfl rfl (Nat.le_of_ble_eq_true rfl) dX9_loadFrom_31 (fun H locs hP hD hS => ?_)
  have hP : va_P (dC, dI) vwCl [(h_t, .inr (6, [.ref h_t_cells, .int (a1 (x2 + (48 : Int32)).toNatClampNeg), .int (a1 ((x2 + (48 : Int32)) + (1 : Int32)).toNatClampNeg), .int t_draw, .int t_changes])), (h_t_cells, .inl (cI, 48, .inl (va_cpy a1 t_cells x2.toNatClampNeg (0 : Int32).toNatClampNeg (48 : Int32).toNatClampNeg))), (h_a1, .inl (cI, n_a1, .inl a1))] H := hP
  have hD : va_D A [(h_t, .inr (6, [.ref h_t_cells, .int (a1 (x2 + (48 : Int32)).toNatClampNeg), .int (a1 ((x2 + (48 : Int32)) + (1 : Int32)).toNatClampNeg), .int t_draw, .int t_changes])), (h_t_cells, .inl (cI, 48, .inl (va_cpy a1 t_cells x2.toNatClampNeg (0 : Int32).toNatClampNeg (48 : Int32).toNatClampNeg))), (h_a1, .inl (cI, n_a1, .inl a1))] := hD
  refine lv_aload_n hx hb dX9_loadFrom_34 rfl (lv_at hl 0 rfl) ?_
  refine lv_aload_n hx hb dX9_loadFrom_35 rfl (lv_at hl 1 rfl) ?_
  refine lv_iload_n hx hb dX9_loadFrom_36 rfl (lv_at hl 2 rfl) ?_
  refine lv_bipush (v := (48 : Int32)) hx hb dX9_loadFrom_37 (by decide) ?_
  refine lv_iadd hx hb dX9_loadFrom_39 ?_
  refine lv_iconst (v := (2 : Int32)) hx hb dX9_loadFrom_40 (by decide) ?_
  refine lv_iadd hx hb dX9_loadFrom_41 ?_
  obtain ⟨hb3, hf⟩ := hf
  refine va_iald hx hb hK hP 2 0 rfl rfl hb3 dX9_loadFrom_42 ?_
  refine va_put (D := (dC, dI)) (ci := 6) (v := .int (a1 ((x2 + (48 : Int32)) + (2 : Int32)).toNatClampNeg)) (ty := .int) (C := RX9) (T := TX9) (N := 5) hx hb hts hinX9 tyX9 tyX9_ok nmX9 hown hK hP hD hS 0 rfl rfl 3 (by decide) q8 (fun _ h9 => h9) rfl (by decide +kernel) rfl rfl (Nat.le_of_ble_eq_true rfl) dX9_loadFrom_43 (fun H locs hP hD hS => ?_)
  have hP : va_P (dC, dI) vwCl [(h_t, .inr (6, [.ref h_t_cells, .int (a1 (x2 + (48 : Int32)).toNatClampNeg), .int (a1 ((x2 + (48 : Int32)) + (1 : Int32)).toNatClampNeg), .int (a1 ((x2 + (48 : Int32)) + (2 : Int32)).toNatClampNeg), .int t_changes])), (h_t_cells, .inl (cI, 48, .inl (va_cpy a1 t_cells x2.toNatClampNeg (0 : Int32).toNatClampNeg (48 : Int32).toNatClampNeg))), (h_a1, .inl (cI, n_a1, .inl a1))] H := hP
  have hD : va_D A [(h_t, .inr (6, [.ref h_t_cells, .int (a1 (x2 + (48 : Int32)).toNatClampNeg), .int (a1 ((x2 + (48 : Int32)) + (1 : Int32)).toNatClampNeg), .int (a1 ((x2 + (48 : Int32)) + (2 : Int32)).toNatClampNeg), .int t_changes])), (h_t_cells, .inl (cI, 48, .inl (va_cpy a1 t_cells x2.toNatClampNeg (0 : Int32).toNatClampNeg (48 : Int32).toNatClampNeg))), (h_a1, .inl (cI, n_a1, .inl a1))] := hD
  refine lv_aload_n hx hb dX9_loadFrom_46 rfl (lv_at hl 0 rfl) ?_
  refine lv_dup hx hb dX9_loadFrom_47 rfl ?_
  refine va_get (D := (dC, dI)) (ci := 6) (v := .int t_changes) (C := RX9) (T := TX9) (N := 5) hx hb hts hinX9 hown hK hP 0 rfl rfl 4 (by decide) q9 (fun _ h9 => h9) rfl dX9_loadFrom_48 ?_
  refine lv_iconst (v := (1 : Int32)) hx hb dX9_loadFrom_51 (by decide) ?_
  refine lv_iadd hx hb dX9_loadFrom_52 ?_
  refine va_put (D := (dC, dI)) (ci := 6) (v := .int (t_changes + (1 : Int32))) (ty := .int) (C := RX9) (T := TX9) (N := 5) hx hb hts hinX9 tyX9 tyX9_ok nmX9 hown hK hP hD hS 0 rfl rfl 4 (by decide) q9 (fun _ h9 => h9) rfl (by decide +kernel) rfl rfl (Nat.le_of_ble_eq_true rfl) dX9_loadFrom_53 (fun H locs hP hD hS => ?_)
  have hP : va_P (dC, dI) vwCl [(h_t, .inr (6, [.ref h_t_cells, .int (a1 (x2 + (48 : Int32)).toNatClampNeg), .int (a1 ((x2 + (48 : Int32)) + (1 : Int32)).toNatClampNeg), .int (a1 ((x2 + (48 : Int32)) + (2 : Int32)).toNatClampNeg), .int (t_changes + (1 : Int32))])), (h_t_cells, .inl (cI, 48, .inl (va_cpy a1 t_cells x2.toNatClampNeg (0 : Int32).toNatClampNeg (48 : Int32).toNatClampNeg))), (h_a1, .inl (cI, n_a1, .inl a1))] H := hP
  have hD : va_D A [(h_t, .inr (6, [.ref h_t_cells, .int (a1 (x2 + (48 : Int32)).toNatClampNeg), .int (a1 ((x2 + (48 : Int32)) + (1 : Int32)).toNatClampNeg), .int (a1 ((x2 + (48 : Int32)) + (2 : Int32)).toNatClampNeg), .int (t_changes + (1 : Int32))])), (h_t_cells, .inl (cI, 48, .inl (va_cpy a1 t_cells x2.toNatClampNeg (0 : Int32).toNatClampNeg (48 : Int32).toNatClampNeg))), (h_a1, .inl (cI, n_a1, .inl a1))] := hD
  exact ret _ _ _ _ ((a1 (x2 + (48 : Int32)).toNatClampNeg), (a1 ((x2 + (48 : Int32)) + (1 : Int32)).toNatClampNeg), (a1 ((x2 + (48 : Int32)) + (2 : Int32)).toNatClampNeg), (t_changes + (1 : Int32)), (va_cpy a1 t_cells x2.toNatClampNeg (0 : Int32).toNatClampNeg (48 : Int32).toNatClampNeg)) hf hP hD hS dX9_loadFrom_56
abbrev rm_X0_goBack : Room := { frames := 2, cells := 0, slots := 0, locals := 82 }
set_option maxHeartbeats 4000000 in
set_option maxRecDepth 100000 in
theorem c_X0_goBack (l : Launch) (dC : Nat → ClassId) (dI : Nat → Nat → Nat) (cI cJ cC cZ : ClassId) (h_t h_t_now h_t_past h_t_now_cells : Nat) (sz : Nat) (t_known : Int32) (t_now_size : Int32) (t_now_most : Int32) (t_now_draw : Int32) (t_now_changes : Int32) (t_now_cells : Nat → Int32) (t_past : Nat → Int32) (Q : Int32 → Int32 → Int32 → Int32 → Int32 → (Nat → Int32) → Prop) (hw : p_X0_goBack t_known t_now_size t_now_most t_now_draw t_now_changes t_now_cells t_past Q) : Met l yX0_goBack wsX0_goBack rm_X0_goBack (va_Pc [.ref h_t] (gz_B (dC, dI) (gz_T cI cJ cC cZ) [] sz [(h_t, .inr (0, [.ref h_t_now, .ref h_t_past, .int t_known])), (h_t_now, .inr (6, [.ref h_t_now_cells, .int t_now_size, .int t_now_most, .int t_now_draw, .int t_now_changes])), (h_t_now_cells, .inl (cI, 48, .inl t_now_cells)), (h_t_past, .inl (cI, 408, .inl t_past))])) (va_Qv (fun (u : Int32 × Int32 × Int32 × Int32 × Int32 × (Nat → Int32)) => Q u.1 u.2.1 u.2.2.1 u.2.2.2.1 u.2.2.2.2.1 u.2.2.2.2.2) (fun u t => gz_E (dC, dI) (gz_T cI cJ cC cZ) (va_A [(h_t, .inr (0, [.ref h_t_now, .ref h_t_past, .int t_known])), (h_t_now, .inr (6, [.ref h_t_now_cells, .int t_now_size, .int t_now_most, .int t_now_draw, .int t_now_changes])), (h_t_now_cells, .inl (cI, 48, .inl t_now_cells)), (h_t_past, .inl (cI, 408, .inl t_past))] sz) [(h_t, .inr (0, [.ref h_t_now, .ref h_t_past, .int u.1])), (h_t_now, .inr (6, [.ref h_t_now_cells, .int u.2.1, .int u.2.2.1, .int u.2.2.2.1, .int u.2.2.2.2.1])), (h_t_now_cells, .inl (cI, 48, .inl u.2.2.2.2.2)), (h_t_past, .inl (cI, 408, .inl t_past))] t) (va_A [(h_t, .inr (0, [.ref h_t_now, .ref h_t_past, .int t_known])), (h_t_now, .inr (6, [.ref h_t_now_cells, .int t_now_size, .int t_now_most, .int t_now_draw, .int t_now_changes])), (h_t_now_cells, .inl (cI, 48, .inl t_now_cells)), (h_t_past, .inl (cI, 408, .inl t_past))] sz)) 0 0 (va_A [(h_t, .inr (0, [.ref h_t_now, .ref h_t_past, .int t_known])), (h_t_now, .inr (6, [.ref h_t_now_cells, .int t_now_size, .int t_now_most, .int t_now_draw, .int t_now_changes])), (h_t_now_cells, .inl (cI, 48, .inl t_now_cells)), (h_t_past, .inl (cI, 408, .inl t_past))] sz) := by
  refine gz_mv (cc := cX0_goBack) (maxL := 1) (plainFor_of_name (by decide +kernel)) rfl (Nat.le_of_ble_eq_true rfl) ?_
  intro p e s m below meth c A QQ ls hx hb hml hown0 hts hK hN hA hP hD hS hl ret
  have hown : s.vm.findClass RX0 = some m.cls := hown0
  have hl : lv_has ls 1 [(0, .ref h_t)] := hl
  have q0 := hts (.fieldLink RX0 20 "DarkShadows$Book" "known" "I") (List.mem_cons_of_mem _ (List.mem_append_left _ (List.mem_append_left _ (List.mem_of_getElem? (i := 0) rfl))))
  have hinX0 : ∀ w ∈ wsX00, w ∈ wsX0_goBack := fun w h => List.mem_cons_of_mem _ (List.mem_append_left _ (List.mem_append_right _ h))
  have q2 := hts (.fieldLink RX0 10 "DarkShadows$Book" "now" "LDarkShadows$Told;") (List.mem_cons_of_mem _ (List.mem_append_left _ (List.mem_append_left _ (List.mem_of_getElem? (i := 1) rfl))))
  have q3 := hts (.fieldLink RX0 16 "DarkShadows$Book" "past" "[I") (List.mem_cons_of_mem _ (List.mem_append_left _ (List.mem_append_left _ (List.mem_of_getElem? (i := 2) rfl))))
  have hf := hw
  refine lv_aload_n hx hb dX0_goBack_0 rfl (lv_at hl 0 rfl) ?_
  refine lv_dup hx hb dX0_goBack_1 rfl ?_
  refine va_get (D := (dC, dI)) (ci := 0) (v := .int t_known) (C := RX0) (T := TX0) (N := 3) hx hb hts hinX0 hown hK hP 0 rfl rfl 2 (by decide) q0 (fun _ h9 => h9) rfl dX0_goBack_2 ?_
  refine lv_iconst (v := (1 : Int32)) hx hb dX0_goBack_5 (by decide) ?_
  refine lv_isub hx hb dX0_goBack_6 ?_
  refine va_put (D := (dC, dI)) (ci := 0) (v := .int (t_known - (1 : Int32))) (ty := .int) (C := RX0) (T := TX0) (N := 3) hx hb hts hinX0 tyX0 tyX0_ok nmX0 hown hK hP hD hS 0 rfl rfl 2 (by decide) q0 (fun _ h9 => h9) rfl (by decide +kernel) rfl rfl (Nat.le_of_ble_eq_true rfl) dX0_goBack_7 (fun H locs hP hD hS => ?_)
  have hP : va_P (dC, dI) vwCl [(h_t, .inr (0, [.ref h_t_now, .ref h_t_past, .int (t_known - (1 : Int32))])), (h_t_now, .inr (6, [.ref h_t_now_cells, .int t_now_size, .int t_now_most, .int t_now_draw, .int t_now_changes])), (h_t_now_cells, .inl (cI, 48, .inl t_now_cells)), (h_t_past, .inl (cI, 408, .inl t_past))] H := hP
  have hD : va_D A [(h_t, .inr (0, [.ref h_t_now, .ref h_t_past, .int (t_known - (1 : Int32))])), (h_t_now, .inr (6, [.ref h_t_now_cells, .int t_now_size, .int t_now_most, .int t_now_draw, .int t_now_changes])), (h_t_now_cells, .inl (cI, 48, .inl t_now_cells)), (h_t_past, .inl (cI, 408, .inl t_past))] := hD
  refine lv_aload_n hx hb dX0_goBack_10 rfl (lv_at hl 0 rfl) ?_
  refine va_get (D := (dC, dI)) (ci := 0) (v := .ref h_t_now) (C := RX0) (T := TX0) (N := 3) hx hb hts hinX0 hown hK hP 0 rfl rfl 0 (by decide) q2 (fun _ h9 => h9) rfl dX0_goBack_11 ?_
  refine lv_aload_n hx hb dX0_goBack_14 rfl (lv_at hl 0 rfl) ?_
  refine va_get (D := (dC, dI)) (ci := 0) (v := .ref h_t_past) (C := RX0) (T := TX0) (N := 3) hx hb hts hinX0 hown hK hP 0 rfl rfl 1 (by decide) q3 (fun _ h9 => h9) rfl dX0_goBack_15 ?_
  refine lv_aload_n hx hb dX0_goBack_18 rfl (lv_at hl 0 rfl) ?_
  refine va_get (D := (dC, dI)) (ci := 0) (v := .int (t_known - (1 : Int32))) (C := RX0) (T := TX0) (N := 3) hx hb hts hinX0 hown hK hP 0 rfl rfl 2 (by decide) q0 (fun _ h9 => h9) rfl dX0_goBack_19 ?_
  refine lv_bipush (v := (51 : Int32)) hx hb dX0_goBack_22 (by decide) ?_
  refine lv_imul hx hb dX0_goBack_24 ?_
  refine gz_v (W1 := (fun u : Int32 × Int32 × Int32 × Int32 × (Nat → Int32) => [(h_t_now, .inr (6, [.ref h_t_now_cells, .int u.1, .int u.2.1, .int u.2.2.1, .int u.2.2.2.1])), (h_t_now_cells, .inl (cI, 48, .inl u.2.2.2.2)), (h_t_past, .inl (cI, 408, .inl t_past))])) (wn := (fun u : Int32 × Int32 × Int32 × Int32 × (Nat → Int32) => [(h_t, .inr (0, [.ref h_t_now, .ref h_t_past, .int (t_known - (1 : Int32))])), (h_t_now, .inr (6, [.ref h_t_now_cells, .int u.1, .int u.2.1, .int u.2.2.1, .int u.2.2.2.1])), (h_t_now_cells, .inl (cI, 48, .inl u.2.2.2.2)), (h_t_past, .inl (cI, 408, .inl t_past))])) (wr := [(h_t, .inr (0, [.ref h_t_now, .ref h_t_past, .int (t_known - (1 : Int32))]))]) (va_runV (As := [.ref h_t_past, .int ((t_known - (1 : Int32)) * (51 : Int32))]) (rest := []) ⟨hx, hb, hml, hown, hts⟩ (c_X9_loadFrom l dC dI cI cJ cC cZ h_t_now h_t_now_cells h_t_past H.size 408 t_now_size t_now_most t_now_draw t_now_changes t_now_cells t_past ((t_known - (1 : Int32)) * (51 : Int32)) _ hf) (cwV 2 hts gX0_goBack_X9_loadFrom rfl rfl rfl (by decide +kernel) ⟨Nat.le_of_ble_eq_true rfl, Nat.le_of_ble_eq_true rfl⟩) ⟨gz_blind, va_recv hK hP (ci := 6) (q0 := 1) rfl rfl, gz_pre (gz_P_of hP (is := [1, 2, 3]) (wc := [(h_t_now, .inr (6, [.ref h_t_now_cells, .int t_now_size, .int t_now_most, .int t_now_draw, .int t_now_changes])), (h_t_now_cells, .inl (cI, 48, .inl t_now_cells)), (h_t_past, .inl (cI, 408, .inl t_past))]) rfl) hK (hD.sub [1, 2, 3] (by decide) rfl) gz_N0⟩ rfl rfl hl.1 rfl (lv_room (Nat.le_of_ble_eq_true rfl)) dX0_goBack_25 ⟨Nat.le_refl _, Nat.le_refl _⟩) hP hD hS hA [1, 2, 3] [0] [0, 1, 2, 3] rfl rfl (by decide) (by decide) (fun _ => rfl) (by decide) (fun  u H locs hf hP hD hS => ?_)
  obtain ⟨y1, y2, y3, y4, y5⟩ := u
  have hP : va_P (dC, dI) vwCl [(h_t, .inr (0, [.ref h_t_now, .ref h_t_past, .int (t_known - (1 : Int32))])), (h_t_now, .inr (6, [.ref h_t_now_cells, .int y1, .int y2, .int y3, .int y4])), (h_t_now_cells, .inl (cI, 48, .inl y5)), (h_t_past, .inl (cI, 408, .inl t_past))] H := hP
  have hD : va_D A [(h_t, .inr (0, [.ref h_t_now, .ref h_t_past, .int (t_known - (1 : Int32))])), (h_t_now, .inr (6, [.ref h_t_now_cells, .int y1, .int y2, .int y3, .int y4])), (h_t_now_cells, .inl (cI, 48, .inl y5)), (h_t_past, .inl (cI, 408, .inl t_past))] := hD
  exact ret _ _ _ _ ((t_known - (1 : Int32)), y1, y2, y3, y4, y5) hf hP hD hS dX0_goBack_28
abbrev rm_X9_take : Room := { frames := 1, cells := 0, slots := 0, locals := 60 }
set_option maxHeartbeats 4000000 in
set_option maxRecDepth 100000 in
theorem c_X9_take (l : Launch) (dC : Nat → ClassId) (dI : Nat → Nat → Nat) (cI cJ cC cZ : ClassId) (h_t h_t_cells h_a1 h_a1_cells : Nat) (sz : Nat) (t_size : Int32) (t_most : Int32) (t_draw : Int32) (t_changes : Int32) (t_cells : Nat → Int32) (a1_size : Int32) (a1_most : Int32) (a1_draw : Int32) (a1_changes : Int32) (a1_cells : Nat → Int32) (Q : Int32 → Int32 → Int32 → Int32 → (Nat → Int32) → Prop) (hw : p_X9_take t_size t_most t_draw t_changes t_cells a1_size a1_most a1_draw a1_cells Q) : Met l yX9_take wsX9_take rm_X9_take (va_Pc [.ref h_t, .ref h_a1] (gz_B (dC, dI) (gz_T cI cJ cC cZ) [] sz [(h_t, .inr (6, [.ref h_t_cells, .int t_size, .int t_most, .int t_draw, .int t_changes])), (h_t_cells, .inl (cI, 48, .inl t_cells)), (h_a1, .inr (6, [.ref h_a1_cells, .int a1_size, .int a1_most, .int a1_draw, .int a1_changes])), (h_a1_cells, .inl (cI, 48, .inl a1_cells))])) (va_Qv (fun (u : Int32 × Int32 × Int32 × Int32 × (Nat → Int32)) => Q u.1 u.2.1 u.2.2.1 u.2.2.2.1 u.2.2.2.2) (fun u t => gz_E (dC, dI) (gz_T cI cJ cC cZ) (va_A [(h_t, .inr (6, [.ref h_t_cells, .int t_size, .int t_most, .int t_draw, .int t_changes])), (h_t_cells, .inl (cI, 48, .inl t_cells)), (h_a1, .inr (6, [.ref h_a1_cells, .int a1_size, .int a1_most, .int a1_draw, .int a1_changes])), (h_a1_cells, .inl (cI, 48, .inl a1_cells))] sz) [(h_t, .inr (6, [.ref h_t_cells, .int u.1, .int u.2.1, .int u.2.2.1, .int u.2.2.2.1])), (h_t_cells, .inl (cI, 48, .inl u.2.2.2.2)), (h_a1, .inr (6, [.ref h_a1_cells, .int a1_size, .int a1_most, .int a1_draw, .int a1_changes])), (h_a1_cells, .inl (cI, 48, .inl a1_cells))] t) (va_A [(h_t, .inr (6, [.ref h_t_cells, .int t_size, .int t_most, .int t_draw, .int t_changes])), (h_t_cells, .inl (cI, 48, .inl t_cells)), (h_a1, .inr (6, [.ref h_a1_cells, .int a1_size, .int a1_most, .int a1_draw, .int a1_changes])), (h_a1_cells, .inl (cI, 48, .inl a1_cells))] sz)) 0 0 (va_A [(h_t, .inr (6, [.ref h_t_cells, .int t_size, .int t_most, .int t_draw, .int t_changes])), (h_t_cells, .inl (cI, 48, .inl t_cells)), (h_a1, .inr (6, [.ref h_a1_cells, .int a1_size, .int a1_most, .int a1_draw, .int a1_changes])), (h_a1_cells, .inl (cI, 48, .inl a1_cells))] sz) := by
  refine gz_mv (cc := cX9_take) (maxL := 2) (plainFor_of_name (by decide +kernel)) rfl (Nat.le_of_ble_eq_true rfl) ?_
  intro p e s m below meth c A QQ ls hx hb hml hown0 hts hK hN hA hP hD hS hl ret
  have hown : s.vm.findClass RX9 = some m.cls := hown0
  have hl : lv_has ls 2 [(0, .ref h_t), (1, .ref h_a1)] := hl
  have q0 := hts (.fieldLink RX9 11 "DarkShadows$Told" "cells" "[I") (List.mem_cons_of_mem _ (List.mem_append_left _ (List.mem_of_getElem? (i := 0) rfl)))
  have hinX9 : ∀ w ∈ wsX90, w ∈ wsX9_take := fun w h => List.mem_cons_of_mem _ (List.mem_append_right _ h)
  have q2 := hts (.methodLink RX9 37 arraycopyName) (List.mem_cons_of_mem _ (List.mem_append_left _ (List.mem_of_getElem? (i := 1) rfl)))
  have q3 := hts (.native arraycopyName) (List.mem_cons_of_mem _ (List.mem_append_left _ (List.mem_of_getElem? (i := 2) rfl)))
  have q4 := hts (.static arraycopyName) (List.mem_cons_of_mem _ (List.mem_append_left _ (List.mem_of_getElem? (i := 3) rfl)))
  have q5 := hts (.initialized "java/lang/System") (List.mem_cons_of_mem _ (List.mem_append_left _ (List.mem_of_getElem? (i := 4) rfl)))
  have q6 := hts (.fieldLink RX9 30 "DarkShadows$Told" "size" "I") (List.mem_cons_of_mem _ (List.mem_append_left _ (List.mem_of_getElem? (i := 5) rfl)))
  have q7 := hts (.fieldLink RX9 15 "DarkShadows$Told" "most" "I") (List.mem_cons_of_mem _ (List.mem_append_left _ (List.mem_of_getElem? (i := 6) rfl)))
  have q8 := hts (.fieldLink RX9 19 "DarkShadows$Told" "draw" "I") (List.mem_cons_of_mem _ (List.mem_append_left _ (List.mem_of_getElem? (i := 7) rfl)))
  have q9 := hts (.fieldLink RX9 27 "DarkShadows$Told" "changes" "I") (List.mem_cons_of_mem _ (List.mem_append_left _ (List.mem_of_getElem? (i := 8) rfl)))
  have hf := hw
  refine lv_aload_n hx hb dX9_take_0 rfl (lv_at hl 1 rfl) ?_
  refine va_get (D := (dC, dI)) (ci := 6) (v := .ref h_a1_cells) (C := RX9) (T := TX9) (N := 5) hx hb hts hinX9 hown hK hP 2 rfl rfl 0 (by decide) q0 (fun _ h9 => h9) rfl dX9_take_1 ?_
  refine lv_iconst (v := (0 : Int32)) hx hb dX9_take_4 (by decide) ?_
  refine lv_aload_n hx hb dX9_take_5 rfl (lv_at hl 0 rfl) ?_
  refine va_get (D := (dC, dI)) (ci := 6) (v := .ref h_t_cells) (C := RX9) (T := TX9) (N := 5) hx hb hts hinX9 hown hK hP 0 rfl rfl 0 (by decide) q0 (fun _ h9 => h9) rfl dX9_take_6 ?_
  refine lv_iconst (v := (0 : Int32)) hx hb dX9_take_9 (by decide) ?_
  refine lv_bipush (v := (48 : Int32)) hx hb dX9_take_10 (by decide) ?_
  obtain ⟨hb1, hb2, hb3, hb4, hb5, hf⟩ := hf
  refine va_copyi (rest := []) hx hb (hml.trans hl.1.symm) hown q2 q3 q4 q5 hK hP hD hS 3 1 0 0 rfl rfl rfl rfl rfl hb1 hb2 hb3 hb4 hb5 (fun _ _ => rfl) (Nat.le_of_ble_eq_true rfl) (Nat.le_of_ble_eq_true (by decide +kernel)) dX9_take_12 (fun H locs hP hD hS => ?_)
  have hP : va_P (dC, dI) vwCl [(h_t, .inr (6, [.ref h_t_cells, .int t_size, .int t_most, .int t_draw, .int t_changes])), (h_t_cells, .inl (cI, 48, .inl (va_cpy a1_cells t_cells (0 : Int32).toNatClampNeg (0 : Int32).toNatClampNeg (48 : Int32).toNatClampNeg))), (h_a1, .inr (6, [.ref h_a1_cells, .int a1_size, .int a1_most, .int a1_draw, .int a1_changes])), (h_a1_cells, .inl (cI, 48, .inl a1_cells))] H := hP
  have hD : va_D A [(h_t, .inr (6, [.ref h_t_cells, .int t_size, .int t_most, .int t_draw, .int t_changes])), (h_t_cells, .inl (cI, 48, .inl (va_cpy a1_cells t_cells (0 : Int32).toNatClampNeg (0 : Int32).toNatClampNeg (48 : Int32).toNatClampNeg))), (h_a1, .inr (6, [.ref h_a1_cells, .int a1_size, .int a1_most, .int a1_draw, .int a1_changes])), (h_a1_cells, .inl (cI, 48, .inl a1_cells))] := hD
  refine lv_aload_n hx hb dX9_take_15 rfl (lv_at hl 0 rfl) ?_
  refine lv_aload_n hx hb dX9_take_16 rfl (lv_at hl 1 rfl) ?_
  refine va_get (D := (dC, dI)) (ci := 6) (v := .int a1_size) (C := RX9) (T := TX9) (N := 5) hx hb hts hinX9 hown hK hP 2 rfl rfl 1 (by decide) q6 (fun _ h9 => h9) rfl dX9_take_17 ?_
  refine va_put (D := (dC, dI)) (ci := 6) (v := .int a1_size) (ty := .int) (C := RX9) (T := TX9) (N := 5) hx hb hts hinX9 tyX9 tyX9_ok nmX9 hown hK hP hD hS 0 rfl rfl 1 (by decide) q6 (fun _ h9 => h9) rfl (by decide +kernel) rfl rfl (Nat.le_of_ble_eq_true rfl) dX9_take_20 (fun H locs hP hD hS => ?_)
  have hP : va_P (dC, dI) vwCl [(h_t, .inr (6, [.ref h_t_cells, .int a1_size, .int t_most, .int t_draw, .int t_changes])), (h_t_cells, .inl (cI, 48, .inl (va_cpy a1_cells t_cells (0 : Int32).toNatClampNeg (0 : Int32).toNatClampNeg (48 : Int32).toNatClampNeg))), (h_a1, .inr (6, [.ref h_a1_cells, .int a1_size, .int a1_most, .int a1_draw, .int a1_changes])), (h_a1_cells, .inl (cI, 48, .inl a1_cells))] H := hP
  have hD : va_D A [(h_t, .inr (6, [.ref h_t_cells, .int a1_size, .int t_most, .int t_draw, .int t_changes])), (h_t_cells, .inl (cI, 48, .inl (va_cpy a1_cells t_cells (0 : Int32).toNatClampNeg (0 : Int32).toNatClampNeg (48 : Int32).toNatClampNeg))), (h_a1, .inr (6, [.ref h_a1_cells, .int a1_size, .int a1_most, .int a1_draw, .int a1_changes])), (h_a1_cells, .inl (cI, 48, .inl a1_cells))] := hD
  refine lv_aload_n hx hb dX9_take_23 rfl (lv_at hl 0 rfl) ?_
  refine lv_aload_n hx hb dX9_take_24 rfl (lv_at hl 1 rfl) ?_
  refine va_get (D := (dC, dI)) (ci := 6) (v := .int a1_most) (C := RX9) (T := TX9) (N := 5) hx hb hts hinX9 hown hK hP 2 rfl rfl 2 (by decide) q7 (fun _ h9 => h9) rfl dX9_take_25 ?_
  refine va_put (D := (dC, dI)) (ci := 6) (v := .int a1_most) (ty := .int) (C := RX9) (T := TX9) (N := 5) hx hb hts hinX9 tyX9 tyX9_ok nmX9 hown hK hP hD hS 0 rfl rfl 2 (by decide) q7 (fun _ h9 => h9) rfl (by decide +kernel) rfl rfl (Nat.le_of_ble_eq_true rfl) dX9_take_28 (fun H locs hP hD hS => ?_)
  have hP : va_P (dC, dI) vwCl [(h_t, .inr (6, [.ref h_t_cells, .int a1_size, .int a1_most, .int t_draw, .int t_changes])), (h_t_cells, .inl (cI, 48, .inl (va_cpy a1_cells t_cells (0 : Int32).toNatClampNeg (0 : Int32).toNatClampNeg (48 : Int32).toNatClampNeg))), (h_a1, .inr (6, [.ref h_a1_cells, .int a1_size, .int a1_most, .int a1_draw, .int a1_changes])), (h_a1_cells, .inl (cI, 48, .inl a1_cells))] H := hP
  have hD : va_D A [(h_t, .inr (6, [.ref h_t_cells, .int a1_size, .int a1_most, .int t_draw, .int t_changes])), (h_t_cells, .inl (cI, 48, .inl (va_cpy a1_cells t_cells (0 : Int32).toNatClampNeg (0 : Int32).toNatClampNeg (48 : Int32).toNatClampNeg))), (h_a1, .inr (6, [.ref h_a1_cells, .int a1_size, .int a1_most, .int a1_draw, .int a1_changes])), (h_a1_cells, .inl (cI, 48, .inl a1_cells))] := hD
  refine lv_aload_n hx hb dX9_take_31 rfl (lv_at hl 0 rfl) ?_
  refine lv_aload_n hx hb dX9_take_32 rfl (lv_at hl 1 rfl) ?_
  refine va_get (D := (dC, dI)) (ci := 6) (v := .int a1_draw) (C := RX9) (T := TX9) (N := 5) hx hb hts hinX9 hown hK hP 2 rfl rfl 3 (by decide) q8 (fun _ h9 => h9) rfl dX9_take_33 ?_
  refine va_put (D := (dC, dI)) (ci := 6) (v := .int a1_draw) (ty := .int) (C := RX9) (T := TX9) (N := 5) hx hb hts hinX9 tyX9 tyX9_ok nmX9 hown hK hP hD hS 0 rfl rfl 3 (by decide) q8 (fun _ h9 => h9) rfl (by decide +kernel) rfl rfl (Nat.le_of_ble_eq_true rfl) dX9_take_36 (fun H locs hP hD hS => ?_)
  have hP : va_P (dC, dI) vwCl [(h_t, .inr (6, [.ref h_t_cells, .int a1_size, .int a1_most, .int a1_draw, .int t_changes])), (h_t_cells, .inl (cI, 48, .inl (va_cpy a1_cells t_cells (0 : Int32).toNatClampNeg (0 : Int32).toNatClampNeg (48 : Int32).toNatClampNeg))), (h_a1, .inr (6, [.ref h_a1_cells, .int a1_size, .int a1_most, .int a1_draw, .int a1_changes])), (h_a1_cells, .inl (cI, 48, .inl a1_cells))] H := hP
  have hD : va_D A [(h_t, .inr (6, [.ref h_t_cells, .int a1_size, .int a1_most, .int a1_draw, .int t_changes])), (h_t_cells, .inl (cI, 48, .inl (va_cpy a1_cells t_cells (0 : Int32).toNatClampNeg (0 : Int32).toNatClampNeg (48 : Int32).toNatClampNeg))), (h_a1, .inr (6, [.ref h_a1_cells, .int a1_size, .int a1_most, .int a1_draw, .int a1_changes])), (h_a1_cells, .inl (cI, 48, .inl a1_cells))] := hD
  refine lv_aload_n hx hb dX9_take_39 rfl (lv_at hl 0 rfl) ?_
  refine lv_dup hx hb dX9_take_40 rfl ?_
  refine va_get (D := (dC, dI)) (ci := 6) (v := .int t_changes) (C := RX9) (T := TX9) (N := 5) hx hb hts hinX9 hown hK hP 0 rfl rfl 4 (by decide) q9 (fun _ h9 => h9) rfl dX9_take_41 ?_
  refine lv_iconst (v := (1 : Int32)) hx hb dX9_take_44 (by decide) ?_
  refine lv_iadd hx hb dX9_take_45 ?_
  refine va_put (D := (dC, dI)) (ci := 6) (v := .int (t_changes + (1 : Int32))) (ty := .int) (C := RX9) (T := TX9) (N := 5) hx hb hts hinX9 tyX9 tyX9_ok nmX9 hown hK hP hD hS 0 rfl rfl 4 (by decide) q9 (fun _ h9 => h9) rfl (by decide +kernel) rfl rfl (Nat.le_of_ble_eq_true rfl) dX9_take_46 (fun H locs hP hD hS => ?_)
  have hP : va_P (dC, dI) vwCl [(h_t, .inr (6, [.ref h_t_cells, .int a1_size, .int a1_most, .int a1_draw, .int (t_changes + (1 : Int32))])), (h_t_cells, .inl (cI, 48, .inl (va_cpy a1_cells t_cells (0 : Int32).toNatClampNeg (0 : Int32).toNatClampNeg (48 : Int32).toNatClampNeg))), (h_a1, .inr (6, [.ref h_a1_cells, .int a1_size, .int a1_most, .int a1_draw, .int a1_changes])), (h_a1_cells, .inl (cI, 48, .inl a1_cells))] H := hP
  have hD : va_D A [(h_t, .inr (6, [.ref h_t_cells, .int a1_size, .int a1_most, .int a1_draw, .int (t_changes + (1 : Int32))])), (h_t_cells, .inl (cI, 48, .inl (va_cpy a1_cells t_cells (0 : Int32).toNatClampNeg (0 : Int32).toNatClampNeg (48 : Int32).toNatClampNeg))), (h_a1, .inr (6, [.ref h_a1_cells, .int a1_size, .int a1_most, .int a1_draw, .int a1_changes])), (h_a1_cells, .inl (cI, 48, .inl a1_cells))] := hD
  exact ret _ _ _ _ (a1_size, a1_most, a1_draw, (t_changes + (1 : Int32)), (va_cpy a1_cells t_cells (0 : Int32).toNatClampNeg (0 : Int32).toNatClampNeg (48 : Int32).toNatClampNeg)) hf hP hD hS dX9_take_49
abbrev rm_X0_begin : Room := { frames := 2, cells := 0, slots := 0, locals := 81 }
set_option maxHeartbeats 4000000 in
set_option maxRecDepth 100000 in
theorem c_X0_begin (l : Launch) (dC : Nat → ClassId) (dI : Nat → Nat → Nat) (cI cJ cC cZ : ClassId) (h_t h_t_now h_t_past h_t_now_cells h_a1 h_a1_cells : Nat) (sz : Nat) (t_known : Int32) (t_now_size : Int32) (t_now_most : Int32) (t_now_draw : Int32) (t_now_changes : Int32) (t_now_cells : Nat → Int32) (a1_size : Int32) (a1_most : Int32) (a1_draw : Int32) (a1_changes : Int32) (a1_cells : Nat → Int32) (Q : Int32 → Int32 → Int32 → Int32 → Int32 → (Nat → Int32) → Prop) (hw : p_X0_begin t_known t_now_size t_now_most t_now_draw t_now_changes t_now_cells a1_size a1_most a1_draw a1_cells Q) : Met l yX0_begin wsX0_begin rm_X0_begin (va_Pc [.ref h_t, .ref h_a1] (gz_B (dC, dI) (gz_T cI cJ cC cZ) [] sz [(h_t, .inr (0, [.ref h_t_now, .ref h_t_past, .int t_known])), (h_t_now, .inr (6, [.ref h_t_now_cells, .int t_now_size, .int t_now_most, .int t_now_draw, .int t_now_changes])), (h_t_now_cells, .inl (cI, 48, .inl t_now_cells)), (h_a1, .inr (6, [.ref h_a1_cells, .int a1_size, .int a1_most, .int a1_draw, .int a1_changes])), (h_a1_cells, .inl (cI, 48, .inl a1_cells))])) (va_Qv (fun (u : Int32 × Int32 × Int32 × Int32 × Int32 × (Nat → Int32)) => Q u.1 u.2.1 u.2.2.1 u.2.2.2.1 u.2.2.2.2.1 u.2.2.2.2.2) (fun u t => gz_E (dC, dI) (gz_T cI cJ cC cZ) (va_A [(h_t, .inr (0, [.ref h_t_now, .ref h_t_past, .int t_known])), (h_t_now, .inr (6, [.ref h_t_now_cells, .int t_now_size, .int t_now_most, .int t_now_draw, .int t_now_changes])), (h_t_now_cells, .inl (cI, 48, .inl t_now_cells)), (h_a1, .inr (6, [.ref h_a1_cells, .int a1_size, .int a1_most, .int a1_draw, .int a1_changes])), (h_a1_cells, .inl (cI, 48, .inl a1_cells))] sz) [(h_t, .inr (0, [.ref h_t_now, .ref h_t_past, .int u.1])), (h_t_now, .inr (6, [.ref h_t_now_cells, .int u.2.1, .int u.2.2.1, .int u.2.2.2.1, .int u.2.2.2.2.1])), (h_t_now_cells, .inl (cI, 48, .inl u.2.2.2.2.2)), (h_a1, .inr (6, [.ref h_a1_cells, .int a1_size, .int a1_most, .int a1_draw, .int a1_changes])), (h_a1_cells, .inl (cI, 48, .inl a1_cells))] t) (va_A [(h_t, .inr (0, [.ref h_t_now, .ref h_t_past, .int t_known])), (h_t_now, .inr (6, [.ref h_t_now_cells, .int t_now_size, .int t_now_most, .int t_now_draw, .int t_now_changes])), (h_t_now_cells, .inl (cI, 48, .inl t_now_cells)), (h_a1, .inr (6, [.ref h_a1_cells, .int a1_size, .int a1_most, .int a1_draw, .int a1_changes])), (h_a1_cells, .inl (cI, 48, .inl a1_cells))] sz)) 0 0 (va_A [(h_t, .inr (0, [.ref h_t_now, .ref h_t_past, .int t_known])), (h_t_now, .inr (6, [.ref h_t_now_cells, .int t_now_size, .int t_now_most, .int t_now_draw, .int t_now_changes])), (h_t_now_cells, .inl (cI, 48, .inl t_now_cells)), (h_a1, .inr (6, [.ref h_a1_cells, .int a1_size, .int a1_most, .int a1_draw, .int a1_changes])), (h_a1_cells, .inl (cI, 48, .inl a1_cells))] sz) := by
  refine gz_mv (cc := cX0_begin) (maxL := 3) (plainFor_of_name (by decide +kernel)) rfl (Nat.le_of_ble_eq_true rfl) ?_
  intro p e s m below meth c A QQ ls hx hb hml hown0 hts hK hN hA hP hD hS hl ret
  have hown : s.vm.findClass RX0 = some m.cls := hown0
  have hl : lv_has ls 3 [(0, .ref h_t), (1, .ref h_a1)] := hl
  have q0 := hts (.fieldLink RX0 10 "DarkShadows$Book" "now" "LDarkShadows$Told;") (List.mem_cons_of_mem _ (List.mem_append_left _ (List.mem_append_left _ (List.mem_of_getElem? (i := 0) rfl))))
  have hinX0 : ∀ w ∈ wsX00, w ∈ wsX0_begin := fun w h => List.mem_cons_of_mem _ (List.mem_append_left _ (List.mem_append_right _ h))
  have q2 := hts (.fieldLink RX0 37 "DarkShadows$Told" "draw" "I") (List.mem_cons_of_mem _ (List.mem_append_left _ (List.mem_append_left _ (List.mem_of_getElem? (i := 1) rfl))))
  have hinX9 : ∀ w ∈ wsX90, w ∈ wsX0_begin := fun w h => List.mem_cons_of_mem _ (List.mem_append_right _ h)
  have q4 := hts (.fieldLink RX0 20 "DarkShadows$Book" "known" "I") (List.mem_cons_of_mem _ (List.mem_append_left _ (List.mem_append_left _ (List.mem_of_getElem? (i := 2) rfl))))
  have hf := hw
  refine lv_aload_n hx hb dX0_begin_0 rfl (lv_at hl 0 rfl) ?_
  refine va_get (D := (dC, dI)) (ci := 0) (v := .ref h_t_now) (C := RX0) (T := TX0) (N := 3) hx hb hts hinX0 hown hK hP 0 rfl rfl 0 (by decide) q0 (fun _ h9 => h9) rfl dX0_begin_1 ?_
  refine va_get (D := (dC, dI)) (ci := 6) (v := .int t_now_draw) (C := RX9) (T := TX9) (N := 5) hx hb hts hinX9 hown hK hP 1 rfl rfl 3 (by decide) q2 (fun _ h9 => h9) rfl dX0_begin_4 ?_
  refine lv_istore_n (lv' := [(2, .int t_now_draw), (0, .ref h_t), (1, .ref h_a1)]) hx hb dX0_begin_7 rfl hl (by decide) rfl (fun ls hl => ?_)
  refine lv_aload_n hx hb dX0_begin_8 rfl (lv_at hl 1 rfl) ?_
  refine va_get (D := (dC, dI)) (ci := 0) (v := .ref h_t_now) (C := RX0) (T := TX0) (N := 3) hx hb hts hinX0 hown hK hP 0 rfl rfl 0 (by decide) q0 (fun _ h9 => h9) rfl dX0_begin_9 ?_
  refine lv_aload_n hx hb dX0_begin_12 rfl (lv_at hl 2 rfl) ?_
  refine gz_v (W1 := (fun u : Int32 × Int32 × Int32 × Int32 × (Nat → Int32) => [(h_t_now, .inr (6, [.ref h_t_now_cells, .int u.1, .int u.2.1, .int u.2.2.1, .int u.2.2.2.1])), (h_t_now_cells, .inl (cI, 48, .inl u.2.2.2.2)), (h_a1, .inr (6, [.ref h_a1_cells, .int a1_size, .int a1_most, .int a1_draw, .int a1_changes])), (h_a1_cells, .inl (cI, 48, .inl a1_cells))])) (wn := (fun u : Int32 × Int32 × Int32 × Int32 × (Nat → Int32) => [(h_t, .inr (0, [.ref h_t_now, .ref h_t_past, .int t_known])), (h_t_now, .inr (6, [.ref h_t_now_cells, .int u.1, .int u.2.1, .int u.2.2.1, .int u.2.2.2.1])), (h_t_now_cells, .inl (cI, 48, .inl u.2.2.2.2)), (h_a1, .inr (6, [.ref h_a1_cells, .int a1_size, .int a1_most, .int a1_draw, .int a1_changes])), (h_a1_cells, .inl (cI, 48, .inl a1_cells))])) (wr := [(h_t, .inr (0, [.ref h_t_now, .ref h_t_past, .int t_known]))]) (va_runV (As := [.ref h_a1]) (rest := []) ⟨hx, hb, hml, hown, hts⟩ (c_X9_take l dC dI cI cJ cC cZ h_t_now h_t_now_cells h_a1 h_a1_cells s.heap.size t_now_size t_now_most t_now_draw t_now_changes t_now_cells a1_size a1_most a1_draw a1_changes a1_cells _ hf) (cwV 1 hts gX0_begin_X9_take rfl rfl rfl (by decide +kernel) ⟨Nat.le_of_ble_eq_true rfl, Nat.le_of_ble_eq_true rfl⟩) ⟨gz_blind, va_recv hK hP (ci := 6) (q0 := 1) rfl rfl, gz_pre (gz_P_of hP (is := [1, 2, 3, 4]) (wc := [(h_t_now, .inr (6, [.ref h_t_now_cells, .int t_now_size, .int t_now_most, .int t_now_draw, .int t_now_changes])), (h_t_now_cells, .inl (cI, 48, .inl t_now_cells)), (h_a1, .inr (6, [.ref h_a1_cells, .int a1_size, .int a1_most, .int a1_draw, .int a1_changes])), (h_a1_cells, .inl (cI, 48, .inl a1_cells))]) rfl) hK (hD.sub [1, 2, 3, 4] (by decide) rfl) gz_N0⟩ rfl rfl hl.1 rfl (lv_room (Nat.le_of_ble_eq_true rfl)) dX0_begin_13 ⟨Nat.le_refl _, Nat.le_refl _⟩) hP hD hS hA [1, 2, 3, 4] [0] [0, 1, 2, 3, 4] rfl rfl (by decide) (by decide) (fun _ => rfl) (by decide) (fun  u H locs hf hP hD hS => ?_)
  obtain ⟨y1, y2, y3, y4, y5⟩ := u
  have hP : va_P (dC, dI) vwCl [(h_t, .inr (0, [.ref h_t_now, .ref h_t_past, .int t_known])), (h_t_now, .inr (6, [.ref h_t_now_cells, .int y1, .int y2, .int y3, .int y4])), (h_t_now_cells, .inl (cI, 48, .inl y5)), (h_a1, .inr (6, [.ref h_a1_cells, .int a1_size, .int a1_most, .int a1_draw, .int a1_changes])), (h_a1_cells, .inl (cI, 48, .inl a1_cells))] H := hP
  have hD : va_D A [(h_t, .inr (0, [.ref h_t_now, .ref h_t_past, .int t_known])), (h_t_now, .inr (6, [.ref h_t_now_cells, .int y1, .int y2, .int y3, .int y4])), (h_t_now_cells, .inl (cI, 48, .inl y5)), (h_a1, .inr (6, [.ref h_a1_cells, .int a1_size, .int a1_most, .int a1_draw, .int a1_changes])), (h_a1_cells, .inl (cI, 48, .inl a1_cells))] := hD
  refine lv_aload_n hx hb dX0_begin_16 rfl (lv_at hl 1 rfl) ?_
  refine va_get (D := (dC, dI)) (ci := 0) (v := .ref h_t_now) (C := RX0) (T := TX0) (N := 3) hx hb hts hinX0 hown hK hP 0 rfl rfl 0 (by decide) q0 (fun _ h9 => h9) rfl dX0_begin_17 ?_
  refine lv_iload_n hx hb dX0_begin_20 rfl (lv_at hl 0 rfl) ?_
  refine va_put (D := (dC, dI)) (ci := 6) (v := .int t_now_draw) (ty := .int) (C := RX9) (T := TX9) (N := 5) hx hb hts hinX9 tyX9 tyX9_ok nmX9 hown hK hP hD hS 1 rfl rfl 3 (by decide) q2 (fun _ h9 => h9) rfl (by decide +kernel) rfl rfl (Nat.le_of_ble_eq_true rfl) dX0_begin_21 (fun H locs hP hD hS => ?_)
  have hP : va_P (dC, dI) vwCl [(h_t, .inr (0, [.ref h_t_now, .ref h_t_past, .int t_known])), (h_t_now, .inr (6, [.ref h_t_now_cells, .int y1, .int y2, .int t_now_draw, .int y4])), (h_t_now_cells, .inl (cI, 48, .inl y5)), (h_a1, .inr (6, [.ref h_a1_cells, .int a1_size, .int a1_most, .int a1_draw, .int a1_changes])), (h_a1_cells, .inl (cI, 48, .inl a1_cells))] H := hP
  have hD : va_D A [(h_t, .inr (0, [.ref h_t_now, .ref h_t_past, .int t_known])), (h_t_now, .inr (6, [.ref h_t_now_cells, .int y1, .int y2, .int t_now_draw, .int y4])), (h_t_now_cells, .inl (cI, 48, .inl y5)), (h_a1, .inr (6, [.ref h_a1_cells, .int a1_size, .int a1_most, .int a1_draw, .int a1_changes])), (h_a1_cells, .inl (cI, 48, .inl a1_cells))] := hD
  refine lv_aload_n hx hb dX0_begin_24 rfl (lv_at hl 1 rfl) ?_
  refine lv_iconst (v := (0 : Int32)) hx hb dX0_begin_25 (by decide) ?_
  refine va_put (D := (dC, dI)) (ci := 0) (v := .int (0 : Int32)) (ty := .int) (C := RX0) (T := TX0) (N := 3) hx hb hts hinX0 tyX0 tyX0_ok nmX0 hown hK hP hD hS 0 rfl rfl 2 (by decide) q4 (fun _ h9 => h9) rfl (by decide +kernel) rfl rfl (Nat.le_of_ble_eq_true rfl) dX0_begin_26 (fun H locs hP hD hS => ?_)
  have hP : va_P (dC, dI) vwCl [(h_t, .inr (0, [.ref h_t_now, .ref h_t_past, .int (0 : Int32)])), (h_t_now, .inr (6, [.ref h_t_now_cells, .int y1, .int y2, .int t_now_draw, .int y4])), (h_t_now_cells, .inl (cI, 48, .inl y5)), (h_a1, .inr (6, [.ref h_a1_cells, .int a1_size, .int a1_most, .int a1_draw, .int a1_changes])), (h_a1_cells, .inl (cI, 48, .inl a1_cells))] H := hP
  have hD : va_D A [(h_t, .inr (0, [.ref h_t_now, .ref h_t_past, .int (0 : Int32)])), (h_t_now, .inr (6, [.ref h_t_now_cells, .int y1, .int y2, .int t_now_draw, .int y4])), (h_t_now_cells, .inl (cI, 48, .inl y5)), (h_a1, .inr (6, [.ref h_a1_cells, .int a1_size, .int a1_most, .int a1_draw, .int a1_changes])), (h_a1_cells, .inl (cI, 48, .inl a1_cells))] := hD
  exact ret _ _ _ _ ((0 : Int32), y1, y2, t_now_draw, y4, y5) hf hP hD hS dX0_begin_29
abbrev rm_X0_take : Room := { frames := 2, cells := 0, slots := 0, locals := 81 }
set_option maxHeartbeats 4000000 in
set_option maxRecDepth 100000 in
theorem c_X0_take (l : Launch) (dC : Nat → ClassId) (dI : Nat → Nat → Nat) (cI cJ cC cZ : ClassId) (h_t h_t_now h_t_past h_t_now_cells h_a1 h_a1_now h_a1_past h_a1_now_cells : Nat) (sz : Nat) (t_known : Int32) (t_now_size : Int32) (t_now_most : Int32) (t_now_draw : Int32) (t_now_changes : Int32) (t_now_cells : Nat → Int32) (t_past : Nat → Int32) (a1_known : Int32) (a1_now_size : Int32) (a1_now_most : Int32) (a1_now_draw : Int32) (a1_now_changes : Int32) (a1_now_cells : Nat → Int32) (a1_past : Nat → Int32) (Q : Int32 → Int32 → Int32 → Int32 → Int32 → (Nat → Int32) → (Nat → Int32) → Prop) (hw : p_X0_take t_known t_now_size t_now_most t_now_draw t_now_changes t_now_cells t_past a1_known a1_now_size a1_now_most a1_now_draw a1_now_cells a1_past Q) : Met l yX0_take wsX0_take rm_X0_take (va_Pc [.ref h_t, .ref h_a1] (gz_B (dC, dI) (gz_T cI cJ cC cZ) [] sz [(h_t, .inr (0, [.ref h_t_now, .ref h_t_past, .int t_known])), (h_t_now, .inr (6, [.ref h_t_now_cells, .int t_now_size, .int t_now_most, .int t_now_draw, .int t_now_changes])), (h_t_now_cells, .inl (cI, 48, .inl t_now_cells)), (h_t_past, .inl (cI, 408, .inl t_past)), (h_a1, .inr (0, [.ref h_a1_now, .ref h_a1_past, .int a1_known])), (h_a1_now, .inr (6, [.ref h_a1_now_cells, .int a1_now_size, .int a1_now_most, .int a1_now_draw, .int a1_now_changes])), (h_a1_now_cells, .inl (cI, 48, .inl a1_now_cells)), (h_a1_past, .inl (cI, 408, .inl a1_past))])) (va_Qv (fun (u : Int32 × Int32 × Int32 × Int32 × Int32 × (Nat → Int32) × (Nat → Int32)) => Q u.1 u.2.1 u.2.2.1 u.2.2.2.1 u.2.2.2.2.1 u.2.2.2.2.2.1 u.2.2.2.2.2.2) (fun u t => gz_E (dC, dI) (gz_T cI cJ cC cZ) (va_A [(h_t, .inr (0, [.ref h_t_now, .ref h_t_past, .int t_known])), (h_t_now, .inr (6, [.ref h_t_now_cells, .int t_now_size, .int t_now_most, .int t_now_draw, .int t_now_changes])), (h_t_now_cells, .inl (cI, 48, .inl t_now_cells)), (h_t_past, .inl (cI, 408, .inl t_past)), (h_a1, .inr (0, [.ref h_a1_now, .ref h_a1_past, .int a1_known])), (h_a1_now, .inr (6, [.ref h_a1_now_cells, .int a1_now_size, .int a1_now_most, .int a1_now_draw, .int a1_now_changes])), (h_a1_now_cells, .inl (cI, 48, .inl a1_now_cells)), (h_a1_past, .inl (cI, 408, .inl a1_past))] sz) [(h_t, .inr (0, [.ref h_t_now, .ref h_t_past, .int u.1])), (h_t_now, .inr (6, [.ref h_t_now_cells, .int u.2.1, .int u.2.2.1, .int u.2.2.2.1, .int u.2.2.2.2.1])), (h_t_now_cells, .inl (cI, 48, .inl u.2.2.2.2.2.1)), (h_t_past, .inl (cI, 408, .inl u.2.2.2.2.2.2)), (h_a1, .inr (0, [.ref h_a1_now, .ref h_a1_past, .int a1_known])), (h_a1_now, .inr (6, [.ref h_a1_now_cells, .int a1_now_size, .int a1_now_most, .int a1_now_draw, .int a1_now_changes])), (h_a1_now_cells, .inl (cI, 48, .inl a1_now_cells)), (h_a1_past, .inl (cI, 408, .inl a1_past))] t) (va_A [(h_t, .inr (0, [.ref h_t_now, .ref h_t_past, .int t_known])), (h_t_now, .inr (6, [.ref h_t_now_cells, .int t_now_size, .int t_now_most, .int t_now_draw, .int t_now_changes])), (h_t_now_cells, .inl (cI, 48, .inl t_now_cells)), (h_t_past, .inl (cI, 408, .inl t_past)), (h_a1, .inr (0, [.ref h_a1_now, .ref h_a1_past, .int a1_known])), (h_a1_now, .inr (6, [.ref h_a1_now_cells, .int a1_now_size, .int a1_now_most, .int a1_now_draw, .int a1_now_changes])), (h_a1_now_cells, .inl (cI, 48, .inl a1_now_cells)), (h_a1_past, .inl (cI, 408, .inl a1_past))] sz)) 0 0 (va_A [(h_t, .inr (0, [.ref h_t_now, .ref h_t_past, .int t_known])), (h_t_now, .inr (6, [.ref h_t_now_cells, .int t_now_size, .int t_now_most, .int t_now_draw, .int t_now_changes])), (h_t_now_cells, .inl (cI, 48, .inl t_now_cells)), (h_t_past, .inl (cI, 408, .inl t_past)), (h_a1, .inr (0, [.ref h_a1_now, .ref h_a1_past, .int a1_known])), (h_a1_now, .inr (6, [.ref h_a1_now_cells, .int a1_now_size, .int a1_now_most, .int a1_now_draw, .int a1_now_changes])), (h_a1_now_cells, .inl (cI, 48, .inl a1_now_cells)), (h_a1_past, .inl (cI, 408, .inl a1_past))] sz) := by
  refine gz_mv (cc := cX0_take) (maxL := 2) (plainFor_of_name (by decide +kernel)) rfl (Nat.le_of_ble_eq_true rfl) ?_
  intro p e s m below meth c A QQ ls hx hb hml hown0 hts hK hN hA hP hD hS hl ret
  have hown : s.vm.findClass RX0 = some m.cls := hown0
  have hl : lv_has ls 2 [(0, .ref h_t), (1, .ref h_a1)] := hl
  have q0 := hts (.fieldLink RX0 10 "DarkShadows$Book" "now" "LDarkShadows$Told;") (List.mem_cons_of_mem _ (List.mem_append_left _ (List.mem_append_left _ (List.mem_of_getElem? (i := 0) rfl))))
  have hinX0 : ∀ w ∈ wsX00, w ∈ wsX0_take := fun w h => List.mem_cons_of_mem _ (List.mem_append_left _ (List.mem_append_right _ h))
  have q2 := hts (.fieldLink RX0 16 "DarkShadows$Book" "past" "[I") (List.mem_cons_of_mem _ (List.mem_append_left _ (List.mem_append_left _ (List.mem_of_getElem? (i := 1) rfl))))
  have q3 := hts (.methodLink RX0 24 arraycopyName) (List.mem_cons_of_mem _ (List.mem_append_left _ (List.mem_append_left _ (List.mem_of_getElem? (i := 2) rfl))))
  have q4 := hts (.native arraycopyName) (List.mem_cons_of_mem _ (List.mem_append_left _ (List.mem_append_left _ (List.mem_of_getElem? (i := 3) rfl))))
  have q5 := hts (.static arraycopyName) (List.mem_cons_of_mem _ (List.mem_append_left _ (List.mem_append_left _ (List.mem_of_getElem? (i := 4) rfl))))
  have q6 := hts (.initialized "java/lang/System") (List.mem_cons_of_mem _ (List.mem_append_left _ (List.mem_append_left _ (List.mem_of_getElem? (i := 5) rfl))))
  have q7 := hts (.fieldLink RX0 20 "DarkShadows$Book" "known" "I") (List.mem_cons_of_mem _ (List.mem_append_left _ (List.mem_append_left _ (List.mem_of_getElem? (i := 6) rfl))))
  have hf := hw
  refine lv_aload_n hx hb dX0_take_0 rfl (lv_at hl 0 rfl) ?_
  refine va_get (D := (dC, dI)) (ci := 0) (v := .ref h_t_now) (C := RX0) (T := TX0) (N := 3) hx hb hts hinX0 hown hK hP 0 rfl rfl 0 (by decide) q0 (fun _ h9 => h9) rfl dX0_take_1 ?_
  refine lv_aload_n hx hb dX0_take_4 rfl (lv_at hl 1 rfl) ?_
  refine va_get (D := (dC, dI)) (ci := 0) (v := .ref h_a1_now) (C := RX0) (T := TX0) (N := 3) hx hb hts hinX0 hown hK hP 4 rfl rfl 0 (by decide) q0 (fun _ h9 => h9) rfl dX0_take_5 ?_
  refine gz_v (W1 := (fun u : Int32 × Int32 × Int32 × Int32 × (Nat → Int32) => [(h_t_now, .inr (6, [.ref h_t_now_cells, .int u.1, .int u.2.1, .int u.2.2.1, .int u.2.2.2.1])), (h_t_now_cells, .inl (cI, 48, .inl u.2.2.2.2)), (h_a1_now, .inr (6, [.ref h_a1_now_cells, .int a1_now_size, .int a1_now_most, .int a1_now_draw, .int a1_now_changes])), (h_a1_now_cells, .inl (cI, 48, .inl a1_now_cells))])) (wn := (fun u : Int32 × Int32 × Int32 × Int32 × (Nat → Int32) => [(h_t, .inr (0, [.ref h_t_now, .ref h_t_past, .int t_known])), (h_t_now, .inr (6, [.ref h_t_now_cells, .int u.1, .int u.2.1, .int u.2.2.1, .int u.2.2.2.1])), (h_t_now_cells, .inl (cI, 48, .inl u.2.2.2.2)), (h_t_past, .inl (cI, 408, .inl t_past)), (h_a1, .inr (0, [.ref h_a1_now, .ref h_a1_past, .int a1_known])), (h_a1_now, .inr (6, [.ref h_a1_now_cells, .int a1_now_size, .int a1_now_most, .int a1_now_draw, .int a1_now_changes])), (h_a1_now_cells, .inl (cI, 48, .inl a1_now_cells)), (h_a1_past, .inl (cI, 408, .inl a1_past))])) (wr := [(h_t, .inr (0, [.ref h_t_now, .ref h_t_past, .int t_known])), (h_t_past, .inl (cI, 408, .inl t_past)), (h_a1, .inr (0, [.ref h_a1_now, .ref h_a1_past, .int a1_known])), (h_a1_past, .inl (cI, 408, .inl a1_past))]) (va_runV (As := [.ref h_a1_now]) (rest := []) ⟨hx, hb, hml, hown, hts⟩ (c_X9_take l dC dI cI cJ cC cZ h_t_now h_t_now_cells h_a1_now h_a1_now_cells s.heap.size t_now_size t_now_most t_now_draw t_now_changes t_now_cells a1_now_size a1_now_most a1_now_draw a1_now_changes a1_now_cells _ hf) (cwV 1 hts gX0_take_X9_take rfl rfl rfl (by decide +kernel) ⟨Nat.le_of_ble_eq_true rfl, Nat.le_of_ble_eq_true rfl⟩) ⟨gz_blind, va_recv hK hP (ci := 6) (q0 := 1) rfl rfl, gz_pre (gz_P_of hP (is := [1, 2, 5, 6]) (wc := [(h_t_now, .inr (6, [.ref h_t_now_cells, .int t_now_size, .int t_now_most, .int t_now_draw, .int t_now_changes])), (h_t_now_cells, .inl (cI, 48, .inl t_now_cells)), (h_a1_now, .inr (6, [.ref h_a1_now_cells, .int a1_now_size, .int a1_now_most, .int a1_now_draw, .int a1_now_changes])), (h_a1_now_cells, .inl (cI, 48, .inl a1_now_cells))]) rfl) hK (hD.sub [1, 2, 5, 6] (by decide) rfl) gz_N0⟩ rfl rfl hl.1 rfl (lv_room (Nat.le_of_ble_eq_true rfl)) dX0_take_8 ⟨Nat.le_refl _, Nat.le_refl _⟩) hP hD hS hA [1, 2, 5, 6] [0, 3, 4, 7] [0, 4, 5, 1, 2, 6, 7, 3] rfl rfl (by decide) (by decide) (fun _ => rfl) (by decide) (fun  u H locs hf hP hD hS => ?_)
  obtain ⟨y1, y2, y3, y4, y5⟩ := u
  have hP : va_P (dC, dI) vwCl [(h_t, .inr (0, [.ref h_t_now, .ref h_t_past, .int t_known])), (h_t_now, .inr (6, [.ref h_t_now_cells, .int y1, .int y2, .int y3, .int y4])), (h_t_now_cells, .inl (cI, 48, .inl y5)), (h_t_past, .inl (cI, 408, .inl t_past)), (h_a1, .inr (0, [.ref h_a1_now, .ref h_a1_past, .int a1_known])), (h_a1_now, .inr (6, [.ref h_a1_now_cells, .int a1_now_size, .int a1_now_most, .int a1_now_draw, .int a1_now_changes])), (h_a1_now_cells, .inl (cI, 48, .inl a1_now_cells)), (h_a1_past, .inl (cI, 408, .inl a1_past))] H := hP
  have hD : va_D A [(h_t, .inr (0, [.ref h_t_now, .ref h_t_past, .int t_known])), (h_t_now, .inr (6, [.ref h_t_now_cells, .int y1, .int y2, .int y3, .int y4])), (h_t_now_cells, .inl (cI, 48, .inl y5)), (h_t_past, .inl (cI, 408, .inl t_past)), (h_a1, .inr (0, [.ref h_a1_now, .ref h_a1_past, .int a1_known])), (h_a1_now, .inr (6, [.ref h_a1_now_cells, .int a1_now_size, .int a1_now_most, .int a1_now_draw, .int a1_now_changes])), (h_a1_now_cells, .inl (cI, 48, .inl a1_now_cells)), (h_a1_past, .inl (cI, 408, .inl a1_past))] := hD
  refine lv_aload_n hx hb dX0_take_11 rfl (lv_at hl 1 rfl) ?_
  refine va_get (D := (dC, dI)) (ci := 0) (v := .ref h_a1_past) (C := RX0) (T := TX0) (N := 3) hx hb hts hinX0 hown hK hP 4 rfl rfl 1 (by decide) q2 (fun _ h9 => h9) rfl dX0_take_12 ?_
  refine lv_iconst (v := (0 : Int32)) hx hb dX0_take_15 (by decide) ?_
  refine lv_aload_n hx hb dX0_take_16 rfl (lv_at hl 0 rfl) ?_
  refine va_get (D := (dC, dI)) (ci := 0) (v := .ref h_t_past) (C := RX0) (T := TX0) (N := 3) hx hb hts hinX0 hown hK hP 0 rfl rfl 1 (by decide) q2 (fun _ h9 => h9) rfl dX0_take_17 ?_
  refine lv_iconst (v := (0 : Int32)) hx hb dX0_take_20 (by decide) ?_
  refine lv_aload_n hx hb dX0_take_21 rfl (lv_at hl 0 rfl) ?_
  refine va_get (D := (dC, dI)) (ci := 0) (v := .ref h_t_past) (C := RX0) (T := TX0) (N := 3) hx hb hts hinX0 hown hK hP 0 rfl rfl 1 (by decide) q2 (fun _ h9 => h9) rfl dX0_take_22 ?_
  refine va_alen (v := (408 : Int32)) hx hb hK hP 3 0 rfl rfl rfl dX0_take_25 ?_
  obtain ⟨hb6, hb7, hb8, hb9, hb10, hf⟩ := hf
  refine va_copyi (rest := []) hx hb (hml.trans hl.1.symm) hown q3 q4 q5 q6 hK hP hD hS 7 3 0 0 rfl rfl rfl rfl rfl hb6 hb7 hb8 hb9 hb10 (fun _ _ => rfl) (Nat.le_of_ble_eq_true rfl) (Nat.le_of_ble_eq_true (by decide +kernel)) dX0_take_26 (fun H locs hP hD hS => ?_)
  have hP : va_P (dC, dI) vwCl [(h_t, .inr (0, [.ref h_t_now, .ref h_t_past, .int t_known])), (h_t_now, .inr (6, [.ref h_t_now_cells, .int y1, .int y2, .int y3, .int y4])), (h_t_now_cells, .inl (cI, 48, .inl y5)), (h_t_past, .inl (cI, 408, .inl (va_cpy a1_past t_past (0 : Int32).toNatClampNeg (0 : Int32).toNatClampNeg (408 : Int32).toNatClampNeg))), (h_a1, .inr (0, [.ref h_a1_now, .ref h_a1_past, .int a1_known])), (h_a1_now, .inr (6, [.ref h_a1_now_cells, .int a1_now_size, .int a1_now_most, .int a1_now_draw, .int a1_now_changes])), (h_a1_now_cells, .inl (cI, 48, .inl a1_now_cells)), (h_a1_past, .inl (cI, 408, .inl a1_past))] H := hP
  have hD : va_D A [(h_t, .inr (0, [.ref h_t_now, .ref h_t_past, .int t_known])), (h_t_now, .inr (6, [.ref h_t_now_cells, .int y1, .int y2, .int y3, .int y4])), (h_t_now_cells, .inl (cI, 48, .inl y5)), (h_t_past, .inl (cI, 408, .inl (va_cpy a1_past t_past (0 : Int32).toNatClampNeg (0 : Int32).toNatClampNeg (408 : Int32).toNatClampNeg))), (h_a1, .inr (0, [.ref h_a1_now, .ref h_a1_past, .int a1_known])), (h_a1_now, .inr (6, [.ref h_a1_now_cells, .int a1_now_size, .int a1_now_most, .int a1_now_draw, .int a1_now_changes])), (h_a1_now_cells, .inl (cI, 48, .inl a1_now_cells)), (h_a1_past, .inl (cI, 408, .inl a1_past))] := hD
  refine lv_aload_n hx hb dX0_take_29 rfl (lv_at hl 0 rfl) ?_
  refine lv_aload_n hx hb dX0_take_30 rfl (lv_at hl 1 rfl) ?_
  refine va_get (D := (dC, dI)) (ci := 0) (v := .int a1_known) (C := RX0) (T := TX0) (N := 3) hx hb hts hinX0 hown hK hP 4 rfl rfl 2 (by decide) q7 (fun _ h9 => h9) rfl dX0_take_31 ?_
  refine va_put (D := (dC, dI)) (ci := 0) (v := .int a1_known) (ty := .int) (C := RX0) (T := TX0) (N := 3) hx hb hts hinX0 tyX0 tyX0_ok nmX0 hown hK hP hD hS 0 rfl rfl 2 (by decide) q7 (fun _ h9 => h9) rfl (by decide +kernel) rfl rfl (Nat.le_of_ble_eq_true rfl) dX0_take_34 (fun H locs hP hD hS => ?_)
  have hP : va_P (dC, dI) vwCl [(h_t, .inr (0, [.ref h_t_now, .ref h_t_past, .int a1_known])), (h_t_now, .inr (6, [.ref h_t_now_cells, .int y1, .int y2, .int y3, .int y4])), (h_t_now_cells, .inl (cI, 48, .inl y5)), (h_t_past, .inl (cI, 408, .inl (va_cpy a1_past t_past (0 : Int32).toNatClampNeg (0 : Int32).toNatClampNeg (408 : Int32).toNatClampNeg))), (h_a1, .inr (0, [.ref h_a1_now, .ref h_a1_past, .int a1_known])), (h_a1_now, .inr (6, [.ref h_a1_now_cells, .int a1_now_size, .int a1_now_most, .int a1_now_draw, .int a1_now_changes])), (h_a1_now_cells, .inl (cI, 48, .inl a1_now_cells)), (h_a1_past, .inl (cI, 408, .inl a1_past))] H := hP
  have hD : va_D A [(h_t, .inr (0, [.ref h_t_now, .ref h_t_past, .int a1_known])), (h_t_now, .inr (6, [.ref h_t_now_cells, .int y1, .int y2, .int y3, .int y4])), (h_t_now_cells, .inl (cI, 48, .inl y5)), (h_t_past, .inl (cI, 408, .inl (va_cpy a1_past t_past (0 : Int32).toNatClampNeg (0 : Int32).toNatClampNeg (408 : Int32).toNatClampNeg))), (h_a1, .inr (0, [.ref h_a1_now, .ref h_a1_past, .int a1_known])), (h_a1_now, .inr (6, [.ref h_a1_now_cells, .int a1_now_size, .int a1_now_most, .int a1_now_draw, .int a1_now_changes])), (h_a1_now_cells, .inl (cI, 48, .inl a1_now_cells)), (h_a1_past, .inl (cI, 408, .inl a1_past))] := hD
  exact ret _ _ _ _ (a1_known, y1, y2, y3, y4, y5, (va_cpy a1_past t_past (0 : Int32).toNatClampNeg (0 : Int32).toNatClampNeg (408 : Int32).toNatClampNeg)) hf hP hD hS dX0_take_37
abbrev rm_X4_cell : Room := { frames := 0, cells := 0, slots := 0, locals := 0 }
set_option maxHeartbeats 4000000 in
set_option maxRecDepth 100000 in
theorem c_X4_cell (l : Launch) (dC : Nat → ClassId) (dI : Nat → Nat → Nat) (cI cJ cC cZ : ClassId) (h_t h_t_cells : Nat) (sz : Nat) (n_t_cells : Nat) (t_size : Int32) (t_cells : Nat → Int32) (x1 : Int32) (x2 : Int32) (Q : Int32 → Prop) (hw : p_X4_cell n_t_cells t_cells x1 x2 Q) : Met l yX4_cell wsX4_cell rm_X4_cell (va_Pc [.ref h_t, .int x1, .int x2] (gz_B (dC, dI) (gz_T cI cJ cC cZ) [] sz [(h_t, .inr (1, [.ref h_t_cells, .int t_size])), (h_t_cells, .inl (cI, n_t_cells, .inl t_cells))])) (va_Qi (fun (r : Int32) (u : Unit) => Q r) (fun u t => gz_E (dC, dI) (gz_T cI cJ cC cZ) (va_A [(h_t, .inr (1, [.ref h_t_cells, .int t_size])), (h_t_cells, .inl (cI, n_t_cells, .inl t_cells))] sz) [(h_t, .inr (1, [.ref h_t_cells, .int t_size])), (h_t_cells, .inl (cI, n_t_cells, .inl t_cells))] t) (va_A [(h_t, .inr (1, [.ref h_t_cells, .int t_size])), (h_t_cells, .inl (cI, n_t_cells, .inl t_cells))] sz)) 0 0 (va_A [(h_t, .inr (1, [.ref h_t_cells, .int t_size])), (h_t_cells, .inl (cI, n_t_cells, .inl t_cells))] sz) := by
  refine gz_mi (cc := cX4_cell) (maxL := 3) (plainFor_of_name (by decide +kernel)) rfl (Nat.le_of_ble_eq_true rfl) ?_
  intro p e s m below meth c A QQ ls hx hb hml hown0 hts hK hN hA hP hD hS hl ret
  have hown : s.vm.findClass RX4 = some m.cls := hown0
  have hl : lv_has ls 3 [(0, .ref h_t), (1, .int x1), (2, .int x2)] := hl
  have q0 := hts (.fieldLink RX4 11 "DarkShadows$Rows" "cells" "[I") (List.mem_cons_of_mem _ (List.mem_append_left _ (List.mem_of_getElem? (i := 0) rfl)))
  have hinX4 : ∀ w ∈ wsX40, w ∈ wsX4_cell := fun w h => List.mem_cons_of_mem _ (List.mem_append_right _ h)
  have hf := hw
  refine lv_aload_n hx hb dX4_cell_0 rfl (lv_at hl 0 rfl) ?_
  refine va_get (D := (dC, dI)) (ci := 1) (v := .ref h_t_cells) (C := RX4) (T := TX4) (N := 2) hx hb hts hinX4 hown hK hP 0 rfl rfl 0 (by decide) q0 (fun _ h9 => h9) rfl dX4_cell_1 ?_
  refine lv_iload_n hx hb dX4_cell_4 rfl (lv_at hl 1 rfl) ?_
  refine lv_iconst (v := (5 : Int32)) hx hb dX4_cell_5 (by decide) ?_
  refine lv_imul hx hb dX4_cell_6 ?_
  refine lv_iload_n hx hb dX4_cell_7 rfl (lv_at hl 2 rfl) ?_
  refine lv_iadd hx hb dX4_cell_8 ?_
  obtain ⟨hb1, hf⟩ := hf
  refine va_iald hx hb hK hP 1 0 rfl rfl hb1 dX4_cell_9 ?_
  exact ret _ _ _ _ (t_cells ((x1 * (5 : Int32)) + x2).toNatClampNeg) () hf hP hD hS dX4_cell_10
abbrev rm_X9_cell : Room := { frames := 0, cells := 0, slots := 0, locals := 0 }
set_option maxHeartbeats 4000000 in
set_option maxRecDepth 100000 in
theorem c_X9_cell (l : Launch) (dC : Nat → ClassId) (dI : Nat → Nat → Nat) (cI cJ cC cZ : ClassId) (h_t h_t_cells : Nat) (sz : Nat) (t_size : Int32) (t_most : Int32) (t_draw : Int32) (t_changes : Int32) (t_cells : Nat → Int32) (x1 : Int32) (x2 : Int32) (Q : Int32 → Prop) (hw : p_X9_cell t_cells x1 x2 Q) : Met l yX9_cell wsX9_cell rm_X9_cell (va_Pc [.ref h_t, .int x1, .int x2] (gz_B (dC, dI) (gz_T cI cJ cC cZ) [] sz [(h_t, .inr (6, [.ref h_t_cells, .int t_size, .int t_most, .int t_draw, .int t_changes])), (h_t_cells, .inl (cI, 48, .inl t_cells))])) (va_Qi (fun (r : Int32) (u : Unit) => Q r) (fun u t => gz_E (dC, dI) (gz_T cI cJ cC cZ) (va_A [(h_t, .inr (6, [.ref h_t_cells, .int t_size, .int t_most, .int t_draw, .int t_changes])), (h_t_cells, .inl (cI, 48, .inl t_cells))] sz) [(h_t, .inr (6, [.ref h_t_cells, .int t_size, .int t_most, .int t_draw, .int t_changes])), (h_t_cells, .inl (cI, 48, .inl t_cells))] t) (va_A [(h_t, .inr (6, [.ref h_t_cells, .int t_size, .int t_most, .int t_draw, .int t_changes])), (h_t_cells, .inl (cI, 48, .inl t_cells))] sz)) 0 0 (va_A [(h_t, .inr (6, [.ref h_t_cells, .int t_size, .int t_most, .int t_draw, .int t_changes])), (h_t_cells, .inl (cI, 48, .inl t_cells))] sz) := by
  refine gz_mi (cc := cX9_cell) (maxL := 3) (plainFor_of_name (by decide +kernel)) rfl (Nat.le_of_ble_eq_true rfl) ?_
  intro p e s m below meth c A QQ ls hx hb hml hown0 hts hK hN hA hP hD hS hl ret
  have hown : s.vm.findClass RX9 = some m.cls := hown0
  have hl : lv_has ls 3 [(0, .ref h_t), (1, .int x1), (2, .int x2)] := hl
  have q0 := hts (.fieldLink RX9 11 "DarkShadows$Told" "cells" "[I") (List.mem_cons_of_mem _ (List.mem_append_left _ (List.mem_of_getElem? (i := 0) rfl)))
  have hinX9 : ∀ w ∈ wsX90, w ∈ wsX9_cell := fun w h => List.mem_cons_of_mem _ (List.mem_append_right _ h)
  have hf := hw
  refine lv_aload_n hx hb dX9_cell_0 rfl (lv_at hl 0 rfl) ?_
  refine va_get (D := (dC, dI)) (ci := 6) (v := .ref h_t_cells) (C := RX9) (T := TX9) (N := 5) hx hb hts hinX9 hown hK hP 0 rfl rfl 0 (by decide) q0 (fun _ h9 => h9) rfl dX9_cell_1 ?_
  refine lv_iload_n hx hb dX9_cell_4 rfl (lv_at hl 1 rfl) ?_
  refine lv_bipush (v := (6 : Int32)) hx hb dX9_cell_5 (by decide) ?_
  refine lv_imul hx hb dX9_cell_7 ?_
  refine lv_iload_n hx hb dX9_cell_8 rfl (lv_at hl 2 rfl) ?_
  refine lv_iadd hx hb dX9_cell_9 ?_
  obtain ⟨hb1, hf⟩ := hf
  refine va_iald hx hb hK hP 1 0 rfl rfl hb1 dX9_cell_10 ?_
  exact ret _ _ _ _ (t_cells ((x1 * (6 : Int32)) + x2).toNatClampNeg) () hf hP hD hS dX9_cell_11
abbrev rm_X4_putTold : Room := { frames := 1, cells := 0, slots := 0, locals := 22 }
set_option maxHeartbeats 4000000 in
set_option maxRecDepth 100000 in
theorem c_X4_putTold (l : Launch) (dC : Nat → ClassId) (dI : Nat → Nat → Nat) (cI cJ cC cZ : ClassId) (h_t h_t_cells h_a1 h_a1_cells : Nat) (sz : Nat) (n_t_cells : Nat) (t_size : Int32) (t_cells : Nat → Int32) (a1_size : Int32) (a1_most : Int32) (a1_draw : Int32) (a1_changes : Int32) (a1_cells : Nat → Int32) (x2 : Int32) (x3 : Int32) (Q : Int32 → (Nat → Int32) → Prop) (hw : p_X4_putTold n_t_cells t_size t_cells a1_cells x2 x3 Q) : Met l yX4_putTold wsX4_putTold rm_X4_putTold (va_Pc [.ref h_t, .ref h_a1, .int x2, .int x3] (gz_B (dC, dI) (gz_T cI cJ cC cZ) [] sz [(h_t, .inr (1, [.ref h_t_cells, .int t_size])), (h_t_cells, .inl (cI, n_t_cells, .inl t_cells)), (h_a1, .inr (6, [.ref h_a1_cells, .int a1_size, .int a1_most, .int a1_draw, .int a1_changes])), (h_a1_cells, .inl (cI, 48, .inl a1_cells))])) (va_Qv (fun (u : Int32 × (Nat → Int32)) => Q u.1 u.2) (fun u t => gz_E (dC, dI) (gz_T cI cJ cC cZ) (va_A [(h_t, .inr (1, [.ref h_t_cells, .int t_size])), (h_t_cells, .inl (cI, n_t_cells, .inl t_cells)), (h_a1, .inr (6, [.ref h_a1_cells, .int a1_size, .int a1_most, .int a1_draw, .int a1_changes])), (h_a1_cells, .inl (cI, 48, .inl a1_cells))] sz) [(h_t, .inr (1, [.ref h_t_cells, .int u.1])), (h_t_cells, .inl (cI, n_t_cells, .inl u.2)), (h_a1, .inr (6, [.ref h_a1_cells, .int a1_size, .int a1_most, .int a1_draw, .int a1_changes])), (h_a1_cells, .inl (cI, 48, .inl a1_cells))] t) (va_A [(h_t, .inr (1, [.ref h_t_cells, .int t_size])), (h_t_cells, .inl (cI, n_t_cells, .inl t_cells)), (h_a1, .inr (6, [.ref h_a1_cells, .int a1_size, .int a1_most, .int a1_draw, .int a1_changes])), (h_a1_cells, .inl (cI, 48, .inl a1_cells))] sz)) 0 0 (va_A [(h_t, .inr (1, [.ref h_t_cells, .int t_size])), (h_t_cells, .inl (cI, n_t_cells, .inl t_cells)), (h_a1, .inr (6, [.ref h_a1_cells, .int a1_size, .int a1_most, .int a1_draw, .int a1_changes])), (h_a1_cells, .inl (cI, 48, .inl a1_cells))] sz) := by
  refine gz_mv (cc := cX4_putTold) (maxL := 5) (plainFor_of_name (by decide +kernel)) rfl (Nat.le_of_ble_eq_true rfl) ?_
  intro p e s m below meth c A QQ ls hx hb hml hown0 hts hK hN hA hP hD hS hl ret
  have hown : s.vm.findClass RX4 = some m.cls := hown0
  have hl : lv_has ls 5 [(0, .ref h_t), (1, .ref h_a1), (2, .int x2), (3, .int x3)] := hl
  have q0 := hts (.fieldLink RX4 15 "DarkShadows$Rows" "size" "I") (List.mem_cons_of_mem _ (List.mem_append_left _ (List.mem_append_left _ (List.mem_of_getElem? (i := 1) rfl))))
  have hinX4 : ∀ w ∈ wsX40, w ∈ wsX4_putTold := fun w h => List.mem_cons_of_mem _ (List.mem_append_left _ (List.mem_append_right _ h))
  have q2 := hts (.fieldLink RX4 11 "DarkShadows$Rows" "cells" "[I") (List.mem_cons_of_mem _ (List.mem_append_left _ (List.mem_append_left _ (List.mem_of_getElem? (i := 0) rfl))))
  have L3 : ∀ (t_size : Int32) (n : Nat) (x4 : Int32) (t_cells : Nat → Int32) (H : Heap) (locs : List Loc) (ls : Array Slot), gi2 (p_X4_putTold_3 n_t_cells t_size a1_cells x2 x3 Q) n x4 t_cells → va_P (dC, dI) vwCl [(h_t, .inr (1, [.ref h_t_cells, .int t_size])), (h_t_cells, .inl (cI, n_t_cells, .inl t_cells)), (h_a1, .inr (6, [.ref h_a1_cells, .int a1_size, .int a1_most, .int a1_draw, .int a1_changes])), (h_a1_cells, .inl (cI, 48, .inl a1_cells))] H → va_D A [(h_t, .inr (1, [.ref h_t_cells, .int t_size])), (h_t_cells, .inl (cI, n_t_cells, .inl t_cells)), (h_a1, .inr (6, [.ref h_a1_cells, .int a1_size, .int a1_most, .int a1_draw, .int a1_changes])), (h_a1_cells, .inl (cI, 48, .inl a1_cells))] → va_S A s.heap H locs → lv_has ls 5 [(0, .ref h_t), (1, .ref h_a1), (2, .int x2), (3, .int x3), (4, .int x4)] → W p l e rm_X4_putTold s m [.ref h_t, .ref h_a1, .int x2, .int x3].toArray below meth c H locs 0 0 QQ (F0 m 3 ls []) := by
    intro t_size n
    induction n with
    | zero => intro x4 t_cells H locs ls hf; exact False.elim hf
    | succ n ih3 =>
      generalize hK3 : gi2 (p_X4_putTold_3 n_t_cells t_size a1_cells x2 x3 Q) n = K3 at ih3
      intro x4 t_cells H locs ls hf hP hD hS hl
      have hf : p_X4_putTold_3 n_t_cells t_size a1_cells x2 x3 Q (gi2 (p_X4_putTold_3 n_t_cells t_size a1_cells x2 x3 Q) n) x4 t_cells := hf
      rw [hK3] at hf
      refine lv_iload hx hb dX4_putTold_3 (lv_at hl 4 rfl) ?_
      refine lv_iconst (v := (5 : Int32)) hx hb dX4_putTold_5 (by decide) ?_
      refine lv_icmp_ge (tgt := 38) hx hb dX4_putTold_6 (by decide) (fun hc3 => ?_) (fun hc3 => ?_)
      · have hf := hf.1 hc3
        refine lv_aload_n hx hb dX4_putTold_38 rfl (lv_at hl 0 rfl) ?_
        refine lv_dup hx hb dX4_putTold_39 rfl ?_
        refine va_get (D := (dC, dI)) (ci := 1) (v := .int t_size) (C := RX4) (T := TX4) (N := 2) hx hb hts hinX4 hown hK hP 0 rfl rfl 1 (by decide) q0 (fun _ h9 => h9) rfl dX4_putTold_40 ?_
        refine lv_iconst (v := (1 : Int32)) hx hb dX4_putTold_43 (by decide) ?_
        refine lv_iadd hx hb dX4_putTold_44 ?_
        refine va_put (D := (dC, dI)) (ci := 1) (v := .int (t_size + (1 : Int32))) (ty := .int) (C := RX4) (T := TX4) (N := 2) hx hb hts hinX4 tyX4 tyX4_ok nmX4 hown hK hP hD hS 0 rfl rfl 1 (by decide) q0 (fun _ h9 => h9) rfl (by decide +kernel) rfl rfl (Nat.le_of_ble_eq_true rfl) dX4_putTold_45 (fun H locs hP hD hS => ?_)
        have hP : va_P (dC, dI) vwCl [(h_t, .inr (1, [.ref h_t_cells, .int (t_size + (1 : Int32))])), (h_t_cells, .inl (cI, n_t_cells, .inl t_cells)), (h_a1, .inr (6, [.ref h_a1_cells, .int a1_size, .int a1_most, .int a1_draw, .int a1_changes])), (h_a1_cells, .inl (cI, 48, .inl a1_cells))] H := hP
        have hD : va_D A [(h_t, .inr (1, [.ref h_t_cells, .int (t_size + (1 : Int32))])), (h_t_cells, .inl (cI, n_t_cells, .inl t_cells)), (h_a1, .inr (6, [.ref h_a1_cells, .int a1_size, .int a1_most, .int a1_draw, .int a1_changes])), (h_a1_cells, .inl (cI, 48, .inl a1_cells))] := hD
        exact ret _ _ _ _ ((t_size + (1 : Int32)), t_cells) hf hP hD hS dX4_putTold_48
      · have hf := hf.2 hc3
        refine lv_aload_n hx hb dX4_putTold_9 rfl (lv_at hl 0 rfl) ?_
        refine va_get (D := (dC, dI)) (ci := 1) (v := .ref h_t_cells) (C := RX4) (T := TX4) (N := 2) hx hb hts hinX4 hown hK hP 0 rfl rfl 0 (by decide) q2 (fun _ h9 => h9) rfl dX4_putTold_10 ?_
        refine lv_aload_n hx hb dX4_putTold_13 rfl (lv_at hl 0 rfl) ?_
        refine va_get (D := (dC, dI)) (ci := 1) (v := .int t_size) (C := RX4) (T := TX4) (N := 2) hx hb hts hinX4 hown hK hP 0 rfl rfl 1 (by decide) q0 (fun _ h9 => h9) rfl dX4_putTold_14 ?_
        refine lv_iconst (v := (5 : Int32)) hx hb dX4_putTold_17 (by decide) ?_
        refine lv_imul hx hb dX4_putTold_18 ?_
        refine lv_iload hx hb dX4_putTold_19 (lv_at hl 4 rfl) ?_
        refine lv_iadd hx hb dX4_putTold_21 ?_
        refine lv_iload_n hx hb dX4_putTold_22 rfl (lv_at hl 3 rfl) ?_
        refine lv_aload_n hx hb dX4_putTold_23 rfl (lv_at hl 1 rfl) ?_
        refine lv_iload_n hx hb dX4_putTold_24 rfl (lv_at hl 2 rfl) ?_
        refine lv_iload hx hb dX4_putTold_25 (lv_at hl 4 rfl) ?_
        refine gz_iR (va_runV (As := [.int x2, .int x4]) (rest := [.int x3, .int ((t_size * (5 : Int32)) + x4), .ref h_t_cells]) ⟨hx, hb, hml, hown, hts⟩ (c_X9_cell l dC dI cI cJ cC cZ h_a1 h_a1_cells H.size a1_size a1_most a1_draw a1_changes a1_cells x2 x4 _ hf) (cwV 2 hts gX4_putTold_X9_cell rfl rfl rfl (by decide +kernel) ⟨Nat.le_of_ble_eq_true rfl, Nat.le_of_ble_eq_true rfl⟩) ⟨gz_blind, va_recv hK hP (ci := 6) (q0 := 2) rfl rfl, gz_pre (gz_P_of hP (is := [2, 3]) (wc := [(h_a1, .inr (6, [.ref h_a1_cells, .int a1_size, .int a1_most, .int a1_draw, .int a1_changes])), (h_a1_cells, .inl (cI, 48, .inl a1_cells))]) rfl) hK (hD.sub [2, 3] (by decide) rfl) gz_N0⟩ rfl rfl hl.1 rfl (lv_room (Nat.le_of_ble_eq_true rfl)) dX4_putTold_27 ⟨Nat.le_refl _, Nat.le_refl _⟩) hP hD hS hA [2, 3] rfl (fun r1 H locs hf hP hS => ?_)
        refine lv_imul hx hb dX4_putTold_30 ?_
        obtain ⟨hb2, hf⟩ := hf
        refine va_iast hx hb hK hP hD hS 1 0 rfl rfl hb2 dX4_putTold_31 (fun H locs hP hD hS => ?_)
        have hP : va_P (dC, dI) vwCl [(h_t, .inr (1, [.ref h_t_cells, .int t_size])), (h_t_cells, .inl (cI, n_t_cells, .inl (upd t_cells ((t_size * (5 : Int32)) + x4).toNatClampNeg (x3 * r1)))), (h_a1, .inr (6, [.ref h_a1_cells, .int a1_size, .int a1_most, .int a1_draw, .int a1_changes])), (h_a1_cells, .inl (cI, 48, .inl a1_cells))] H := hP
        have hD : va_D A [(h_t, .inr (1, [.ref h_t_cells, .int t_size])), (h_t_cells, .inl (cI, n_t_cells, .inl (upd t_cells ((t_size * (5 : Int32)) + x4).toNatClampNeg (x3 * r1)))), (h_a1, .inr (6, [.ref h_a1_cells, .int a1_size, .int a1_most, .int a1_draw, .int a1_changes])), (h_a1_cells, .inl (cI, 48, .inl a1_cells))] := hD
        refine lv_iinc (v := (x4 + (1 : Int32))) (lv' := [(4, .int (x4 + (1 : Int32))), (0, .ref h_t), (1, .ref h_a1), (2, .int x2), (3, .int x3)]) hx hb dX4_putTold_32 hl (k := 4) rfl rfl (by decide) rfl (fun ls hl => ?_)
        refine lv_goto (tgt := 3) hx hb dX4_putTold_35 (by decide) ?_
        exact ih3 (x4 + (1 : Int32)) (upd t_cells ((t_size * (5 : Int32)) + x4).toNatClampNeg (x3 * r1)) _ _ _ hf hP hD hS (lv_sub hl [1, 2, 3, 4, 0] rfl)
  have hf := hw
  refine lv_iconst (v := (0 : Int32)) hx hb dX4_putTold_0 (by decide) ?_
  refine lv_istore (lv' := [(4, .int (0 : Int32)), (0, .ref h_t), (1, .ref h_a1), (2, .int x2), (3, .int x3)]) hx hb dX4_putTold_1 hl (by decide) rfl (fun ls hl => ?_)
  obtain ⟨n, hf⟩ := hf
  exact L3 t_size n (0 : Int32) t_cells _ _ _ hf hP hD hS (lv_sub hl [1, 2, 3, 4, 0] rfl)
abbrev rm_X4_putBound : Room := { frames := 0, cells := 0, slots := 0, locals := 0 }
set_option maxHeartbeats 4000000 in
set_option maxRecDepth 100000 in
theorem c_X4_putBound (l : Launch) (dC : Nat → ClassId) (dI : Nat → Nat → Nat) (cI cJ cC cZ : ClassId) (h_t h_t_cells : Nat) (sz : Nat) (n_t_cells : Nat) (t_size : Int32) (t_cells : Nat → Int32) (x1 : Int32) (x2 : Int32) (x3 : Int32) (Q : Int32 → (Nat → Int32) → Prop) (hw : p_X4_putBound n_t_cells t_size t_cells x1 x2 x3 Q) : Met l yX4_putBound wsX4_putBound rm_X4_putBound (va_Pc [.ref h_t, .int x1, .int x2, .int x3] (gz_B (dC, dI) (gz_T cI cJ cC cZ) [] sz [(h_t, .inr (1, [.ref h_t_cells, .int t_size])), (h_t_cells, .inl (cI, n_t_cells, .inl t_cells))])) (va_Qv (fun (u : Int32 × (Nat → Int32)) => Q u.1 u.2) (fun u t => gz_E (dC, dI) (gz_T cI cJ cC cZ) (va_A [(h_t, .inr (1, [.ref h_t_cells, .int t_size])), (h_t_cells, .inl (cI, n_t_cells, .inl t_cells))] sz) [(h_t, .inr (1, [.ref h_t_cells, .int u.1])), (h_t_cells, .inl (cI, n_t_cells, .inl u.2))] t) (va_A [(h_t, .inr (1, [.ref h_t_cells, .int t_size])), (h_t_cells, .inl (cI, n_t_cells, .inl t_cells))] sz)) 0 0 (va_A [(h_t, .inr (1, [.ref h_t_cells, .int t_size])), (h_t_cells, .inl (cI, n_t_cells, .inl t_cells))] sz) := by
  refine gz_mv (cc := cX4_putBound) (maxL := 5) (plainFor_of_name (by decide +kernel)) rfl (Nat.le_of_ble_eq_true rfl) ?_
  intro p e s m below meth c A QQ ls hx hb hml hown0 hts hK hN hA hP hD hS hl ret
  have hown : s.vm.findClass RX4 = some m.cls := hown0
  have hl : lv_has ls 5 [(0, .ref h_t), (1, .int x1), (2, .int x2), (3, .int x3)] := hl
  have q0 := hts (.fieldLink RX4 11 "DarkShadows$Rows" "cells" "[I") (List.mem_cons_of_mem _ (List.mem_append_left _ (List.mem_of_getElem? (i := 0) rfl)))
  have hinX4 : ∀ w ∈ wsX40, w ∈ wsX4_putBound := fun w h => List.mem_cons_of_mem _ (List.mem_append_right _ h)
  have q2 := hts (.fieldLink RX4 15 "DarkShadows$Rows" "size" "I") (List.mem_cons_of_mem _ (List.mem_append_left _ (List.mem_of_getElem? (i := 1) rfl)))
  have L3 : ∀ (t_size : Int32) (n : Nat) (x4 : Int32) (t_cells : Nat → Int32) (H : Heap) (locs : List Loc) (ls : Array Slot), gi2 (p_X4_putBound_3 n_t_cells t_size x1 x2 x3 Q) n x4 t_cells → va_P (dC, dI) vwCl [(h_t, .inr (1, [.ref h_t_cells, .int t_size])), (h_t_cells, .inl (cI, n_t_cells, .inl t_cells))] H → va_D A [(h_t, .inr (1, [.ref h_t_cells, .int t_size])), (h_t_cells, .inl (cI, n_t_cells, .inl t_cells))] → va_S A s.heap H locs → lv_has ls 5 [(0, .ref h_t), (1, .int x1), (2, .int x2), (3, .int x3), (4, .int x4)] → W p l e rm_X4_putBound s m [.ref h_t, .int x1, .int x2, .int x3].toArray below meth c H locs 0 0 QQ (F0 m 3 ls []) := by
    intro t_size n
    induction n with
    | zero => intro x4 t_cells H locs ls hf; exact False.elim hf
    | succ n ih3 =>
      generalize hK3 : gi2 (p_X4_putBound_3 n_t_cells t_size x1 x2 x3 Q) n = K3 at ih3
      have L33 : ∀ (x4 : Int32) (t_cells : Nat → Int32) (s1 : Int32) (s2 : Int32) (H : Heap) (locs : List Loc) (ls : Array Slot), p_X4_putBound_33 n_t_cells t_cells x4 s1 s2 K3 → va_P (dC, dI) vwCl [(h_t, .inr (1, [.ref h_t_cells, .int t_size])), (h_t_cells, .inl (cI, n_t_cells, .inl t_cells))] H → va_D A [(h_t, .inr (1, [.ref h_t_cells, .int t_size])), (h_t_cells, .inl (cI, n_t_cells, .inl t_cells))] → va_S A s.heap H locs → lv_has ls 5 [(0, .ref h_t), (1, .int x1), (2, .int x2), (3, .int x3), (4, .int x4)] → W p l e rm_X4_putBound s m [.ref h_t, .int x1, .int x2, .int x3].toArray below meth c H locs 0 0 QQ (F0 m 33 ls [.int s2, .int s1, .ref h_t_cells]) := by
        intro x4 t_cells s1 s2 H locs ls hf hP hD hS hl
        obtain ⟨hb2, hf⟩ := hf
        refine va_iast hx hb hK hP hD hS 1 0 rfl rfl hb2 dX4_putBound_33 (fun H locs hP hD hS => ?_)
        have hP : va_P (dC, dI) vwCl [(h_t, .inr (1, [.ref h_t_cells, .int t_size])), (h_t_cells, .inl (cI, n_t_cells, .inl (upd t_cells s1.toNatClampNeg s2)))] H := hP
        have hD : va_D A [(h_t, .inr (1, [.ref h_t_cells, .int t_size])), (h_t_cells, .inl (cI, n_t_cells, .inl (upd t_cells s1.toNatClampNeg s2)))] := hD
        refine lv_iinc (v := (x4 + (1 : Int32))) (lv' := [(4, .int (x4 + (1 : Int32))), (0, .ref h_t), (1, .int x1), (2, .int x2), (3, .int x3)]) hx hb dX4_putBound_34 hl (k := 4) rfl rfl (by decide) rfl (fun ls hl => ?_)
        refine lv_goto (tgt := 3) hx hb dX4_putBound_37 (by decide) ?_
        exact ih3 (x4 + (1 : Int32)) (upd t_cells s1.toNatClampNeg s2) _ _ _ hf hP hD hS (lv_sub hl [1, 2, 3, 4, 0] rfl)
      intro x4 t_cells H locs ls hf hP hD hS hl
      have hf : p_X4_putBound_3 n_t_cells t_size x1 x2 x3 Q (gi2 (p_X4_putBound_3 n_t_cells t_size x1 x2 x3 Q) n) x4 t_cells := hf
      rw [hK3] at hf
      refine lv_iload hx hb dX4_putBound_3 (lv_at hl 4 rfl) ?_
      refine lv_iconst (v := (4 : Int32)) hx hb dX4_putBound_5 (by decide) ?_
      refine lv_icmp_ge (tgt := 40) hx hb dX4_putBound_6 (by decide) (fun hc4 => ?_) (fun hc4 => ?_)
      · have hf := hf.1 hc4
        refine lv_aload_n hx hb dX4_putBound_40 rfl (lv_at hl 0 rfl) ?_
        refine va_get (D := (dC, dI)) (ci := 1) (v := .ref h_t_cells) (C := RX4) (T := TX4) (N := 2) hx hb hts hinX4 hown hK hP 0 rfl rfl 0 (by decide) q0 (fun _ h9 => h9) rfl dX4_putBound_41 ?_
        refine lv_aload_n hx hb dX4_putBound_44 rfl (lv_at hl 0 rfl) ?_
        refine va_get (D := (dC, dI)) (ci := 1) (v := .int t_size) (C := RX4) (T := TX4) (N := 2) hx hb hts hinX4 hown hK hP 0 rfl rfl 1 (by decide) q2 (fun _ h9 => h9) rfl dX4_putBound_45 ?_
        refine lv_iconst (v := (5 : Int32)) hx hb dX4_putBound_48 (by decide) ?_
        refine lv_imul hx hb dX4_putBound_49 ?_
        refine lv_iconst (v := (4 : Int32)) hx hb dX4_putBound_50 (by decide) ?_
        refine lv_iadd hx hb dX4_putBound_51 ?_
        refine lv_iload_n hx hb dX4_putBound_52 rfl (lv_at hl 3 rfl) ?_
        obtain ⟨hb1, hf⟩ := hf
        refine va_iast hx hb hK hP hD hS 1 0 rfl rfl hb1 dX4_putBound_53 (fun H locs hP hD hS => ?_)
        have hP : va_P (dC, dI) vwCl [(h_t, .inr (1, [.ref h_t_cells, .int t_size])), (h_t_cells, .inl (cI, n_t_cells, .inl (upd t_cells ((t_size * (5 : Int32)) + (4 : Int32)).toNatClampNeg x3)))] H := hP
        have hD : va_D A [(h_t, .inr (1, [.ref h_t_cells, .int t_size])), (h_t_cells, .inl (cI, n_t_cells, .inl (upd t_cells ((t_size * (5 : Int32)) + (4 : Int32)).toNatClampNeg x3)))] := hD
        refine lv_aload_n hx hb dX4_putBound_54 rfl (lv_at hl 0 rfl) ?_
        refine lv_dup hx hb dX4_putBound_55 rfl ?_
        refine va_get (D := (dC, dI)) (ci := 1) (v := .int t_size) (C := RX4) (T := TX4) (N := 2) hx hb hts hinX4 hown hK hP 0 rfl rfl 1 (by decide) q2 (fun _ h9 => h9) rfl dX4_putBound_56 ?_
        refine lv_iconst (v := (1 : Int32)) hx hb dX4_putBound_59 (by decide) ?_
        refine lv_iadd hx hb dX4_putBound_60 ?_
        refine va_put (D := (dC, dI)) (ci := 1) (v := .int (t_size + (1 : Int32))) (ty := .int) (C := RX4) (T := TX4) (N := 2) hx hb hts hinX4 tyX4 tyX4_ok nmX4 hown hK hP hD hS 0 rfl rfl 1 (by decide) q2 (fun _ h9 => h9) rfl (by decide +kernel) rfl rfl (Nat.le_of_ble_eq_true rfl) dX4_putBound_61 (fun H locs hP hD hS => ?_)
        have hP : va_P (dC, dI) vwCl [(h_t, .inr (1, [.ref h_t_cells, .int (t_size + (1 : Int32))])), (h_t_cells, .inl (cI, n_t_cells, .inl (upd t_cells ((t_size * (5 : Int32)) + (4 : Int32)).toNatClampNeg x3)))] H := hP
        have hD : va_D A [(h_t, .inr (1, [.ref h_t_cells, .int (t_size + (1 : Int32))])), (h_t_cells, .inl (cI, n_t_cells, .inl (upd t_cells ((t_size * (5 : Int32)) + (4 : Int32)).toNatClampNeg x3)))] := hD
        exact ret _ _ _ _ ((t_size + (1 : Int32)), (upd t_cells ((t_size * (5 : Int32)) + (4 : Int32)).toNatClampNeg x3)) hf hP hD hS dX4_putBound_64
      · have hf := hf.2 hc4
        refine lv_aload_n hx hb dX4_putBound_9 rfl (lv_at hl 0 rfl) ?_
        refine va_get (D := (dC, dI)) (ci := 1) (v := .ref h_t_cells) (C := RX4) (T := TX4) (N := 2) hx hb hts hinX4 hown hK hP 0 rfl rfl 0 (by decide) q0 (fun _ h9 => h9) rfl dX4_putBound_10 ?_
        refine lv_aload_n hx hb dX4_putBound_13 rfl (lv_at hl 0 rfl) ?_
        refine va_get (D := (dC, dI)) (ci := 1) (v := .int t_size) (C := RX4) (T := TX4) (N := 2) hx hb hts hinX4 hown hK hP 0 rfl rfl 1 (by decide) q2 (fun _ h9 => h9) rfl dX4_putBound_14 ?_
        refine lv_iconst (v := (5 : Int32)) hx hb dX4_putBound_17 (by decide) ?_
        refine lv_imul hx hb dX4_putBound_18 ?_
        refine lv_iload hx hb dX4_putBound_19 (lv_at hl 4 rfl) ?_
        refine lv_iadd hx hb dX4_putBound_21 ?_
        refine lv_iload hx hb dX4_putBound_22 (lv_at hl 4 rfl) ?_
        refine lv_iload_n hx hb dX4_putBound_24 rfl (lv_at hl 1 rfl) ?_
        refine lv_icmp_ne (tgt := 32) hx hb dX4_putBound_25 (by decide) (fun hc3 => ?_) (fun hc3 => ?_)
        · have hf := hf.2 hc3
          refine lv_iconst (v := (0 : Int32)) hx hb dX4_putBound_32 (by decide) ?_
          exact L33 x4 t_cells ((t_size * (5 : Int32)) + x4) (0 : Int32) _ _ _ hf hP hD hS hl
        · have hf := hf.1 hc3
          refine lv_iload_n hx hb dX4_putBound_28 rfl (lv_at hl 2 rfl) ?_
          refine lv_goto (tgt := 33) hx hb dX4_putBound_29 (by decide) ?_
          exact L33 x4 t_cells ((t_size * (5 : Int32)) + x4) x2 _ _ _ hf hP hD hS hl
  have hf := hw
  refine lv_iconst (v := (0 : Int32)) hx hb dX4_putBound_0 (by decide) ?_
  refine lv_istore (lv' := [(4, .int (0 : Int32)), (0, .ref h_t), (1, .int x1), (2, .int x2), (3, .int x3)]) hx hb dX4_putBound_1 hl (by decide) rfl (fun ls hl => ?_)
  obtain ⟨n, hf⟩ := hf
  exact L3 t_size n (0 : Int32) t_cells _ _ _ hf hP hD hS (lv_sub hl [1, 2, 3, 4, 0] rfl)
abbrev rm_X4_reduceLast : Room := { frames := 2, cells := 0, slots := 0, locals := 49 }
set_option maxHeartbeats 4000000 in
set_option maxRecDepth 100000 in
theorem c_X4_reduceLast (l : Launch) (dC : Nat → ClassId) (dI : Nat → Nat → Nat) (cI cJ cC cZ : ClassId) (h_t h_t_cells : Nat) (sz : Nat) (n_t_cells : Nat) (t_size : Int32) (t_cells : Nat → Int32) (Q : (Nat → Int32) → Prop) (hw : p_X4_reduceLast n_t_cells t_size t_cells Q) : Met l yX4_reduceLast wsX4_reduceLast rm_X4_reduceLast (va_Pc [.ref h_t] (gz_B (dC, dI) (gz_T cI cJ cC cZ) [] sz [(h_t, .inr (1, [.ref h_t_cells, .int t_size])), (h_t_cells, .inl (cI, n_t_cells, .inl t_cells))])) (va_Qv (fun (u : (Nat → Int32)) => Q u) (fun u t => gz_E (dC, dI) (gz_T cI cJ cC cZ) (va_A [(h_t, .inr (1, [.ref h_t_cells, .int t_size])), (h_t_cells, .inl (cI, n_t_cells, .inl t_cells))] sz) [(h_t, .inr (1, [.ref h_t_cells, .int t_size])), (h_t_cells, .inl (cI, n_t_cells, .inl u))] t) (va_A [(h_t, .inr (1, [.ref h_t_cells, .int t_size])), (h_t_cells, .inl (cI, n_t_cells, .inl t_cells))] sz)) 0 0 (va_A [(h_t, .inr (1, [.ref h_t_cells, .int t_size])), (h_t_cells, .inl (cI, n_t_cells, .inl t_cells))] sz) := by
  refine gz_mv (cc := cX4_reduceLast) (maxL := 4) (plainFor_of_name (by decide +kernel)) rfl (Nat.le_of_ble_eq_true rfl) ?_
  intro p e s m below meth c A QQ ls hx hb hml hown0 hts hK hN hA hP hD hS hl ret
  have hown : s.vm.findClass RX4 = some m.cls := hown0
  have hl : lv_has ls 4 [(0, .ref h_t)] := hl
  have q0 := hts (.fieldLink RX4 15 "DarkShadows$Rows" "size" "I") (List.mem_cons_of_mem _ (List.mem_append_left _ (List.mem_of_getElem? (i := 0) rfl)))
  have hinX4 : ∀ w ∈ wsX40, w ∈ wsX4_reduceLast := fun w h => List.mem_cons_of_mem _ (List.mem_append_right _ h)
  have q2 := hts (.fieldLink RX4 11 "DarkShadows$Rows" "cells" "[I") (List.mem_cons_of_mem _ (List.mem_append_left _ (List.mem_of_getElem? (i := 1) rfl)))
  have L44 : ∀ (x1 : Int32) (x2 : Int32) (n : Nat) (x3 : Int32) (t_cells : Nat → Int32) (H : Heap) (locs : List Loc) (ls : Array Slot), gi2 (p_X4_reduceLast_44 n_t_cells x1 x2 Q) n x3 t_cells → va_P (dC, dI) vwCl [(h_t, .inr (1, [.ref h_t_cells, .int t_size])), (h_t_cells, .inl (cI, n_t_cells, .inl t_cells))] H → va_D A [(h_t, .inr (1, [.ref h_t_cells, .int t_size])), (h_t_cells, .inl (cI, n_t_cells, .inl t_cells))] → va_S A s.heap H locs → lv_has ls 4 [(0, .ref h_t), (1, .int x1), (2, .int x2), (3, .int x3)] → W p l e rm_X4_reduceLast s m [.ref h_t].toArray below meth c H locs 0 0 QQ (F0 m 44 ls []) := by
    intro x1 x2 n
    induction n with
    | zero => intro x3 t_cells H locs ls hf; exact False.elim hf
    | succ n ih44 =>
      generalize hK44 : gi2 (p_X4_reduceLast_44 n_t_cells x1 x2 Q) n = K44 at ih44
      intro x3 t_cells H locs ls hf hP hD hS hl
      have hf : p_X4_reduceLast_44 n_t_cells x1 x2 Q (gi2 (p_X4_reduceLast_44 n_t_cells x1 x2 Q) n) x3 t_cells := hf
      rw [hK44] at hf
      refine lv_iload_n hx hb dX4_reduceLast_44 rfl (lv_at hl 3 rfl) ?_
      refine lv_iconst (v := (5 : Int32)) hx hb dX4_reduceLast_45 (by decide) ?_
      refine lv_icmp_ge (tgt := 75) hx hb dX4_reduceLast_46 (by decide) (fun hc4 => ?_) (fun hc4 => ?_)
      · have hf := hf.1 hc4
        exact ret _ _ _ _ t_cells hf hP hD hS dX4_reduceLast_75
      · have hf := hf.2 hc4
        refine lv_aload_n hx hb dX4_reduceLast_49 rfl (lv_at hl 0 rfl) ?_
        refine va_get (D := (dC, dI)) (ci := 1) (v := .ref h_t_cells) (C := RX4) (T := TX4) (N := 2) hx hb hts hinX4 hown hK hP 0 rfl rfl 0 (by decide) q2 (fun _ h9 => h9) rfl dX4_reduceLast_50 ?_
        refine lv_iload_n hx hb dX4_reduceLast_53 rfl (lv_at hl 1 rfl) ?_
        refine lv_iload_n hx hb dX4_reduceLast_54 rfl (lv_at hl 3 rfl) ?_
        refine lv_iadd hx hb dX4_reduceLast_55 ?_
        refine lv_aload_n hx hb dX4_reduceLast_56 rfl (lv_at hl 0 rfl) ?_
        refine va_get (D := (dC, dI)) (ci := 1) (v := .ref h_t_cells) (C := RX4) (T := TX4) (N := 2) hx hb hts hinX4 hown hK hP 0 rfl rfl 0 (by decide) q2 (fun _ h9 => h9) rfl dX4_reduceLast_57 ?_
        refine lv_iload_n hx hb dX4_reduceLast_60 rfl (lv_at hl 1 rfl) ?_
        refine lv_iload_n hx hb dX4_reduceLast_61 rfl (lv_at hl 3 rfl) ?_
        refine lv_iadd hx hb dX4_reduceLast_62 ?_
        obtain ⟨hb1, hf⟩ := hf
        refine va_iald hx hb hK hP 1 0 rfl rfl hb1 dX4_reduceLast_63 ?_
        refine lv_iload_n hx hb dX4_reduceLast_64 rfl (lv_at hl 2 rfl) ?_
        refine gz_i0 (va_runS (As := [.int (t_cells (x1 + x3).toNatClampNeg), .int x2]) (rest := [.int (x1 + x3), .ref h_t_cells]) ⟨hx, hb, hml, hown, hts⟩ (c_J9_floorDiv_7cf53 l dC dI cI cJ cC cZ H.size (t_cells (x1 + x3).toNatClampNeg) x2 _ hf) (va_cwS 2 hts gX4_reduceLast_J9_floorDiv_7cf53 rfl rfl rfl (by decide +kernel) ⟨Nat.le_of_ble_eq_true rfl, Nat.le_of_ble_eq_true rfl⟩) ⟨gz_blind, gz_pre (gz_P_of hP (is := []) (wc := []) rfl) hK (hD.sub [] (by decide) rfl) gz_N0⟩ rfl rfl hl.1 rfl (lv_room (Nat.le_of_ble_eq_true rfl)) dX4_reduceLast_65 ⟨Nat.le_refl _, Nat.le_refl _⟩) hP hD hS hA (fun r2 H locs hf hP hS => ?_)
        obtain ⟨hb3, hf⟩ := hf
        refine va_iast hx hb hK hP hD hS 1 0 rfl rfl hb3 dX4_reduceLast_68 (fun H locs hP hD hS => ?_)
        have hP : va_P (dC, dI) vwCl [(h_t, .inr (1, [.ref h_t_cells, .int t_size])), (h_t_cells, .inl (cI, n_t_cells, .inl (upd t_cells (x1 + x3).toNatClampNeg r2)))] H := hP
        have hD : va_D A [(h_t, .inr (1, [.ref h_t_cells, .int t_size])), (h_t_cells, .inl (cI, n_t_cells, .inl (upd t_cells (x1 + x3).toNatClampNeg r2)))] := hD
        refine lv_iinc (v := (x3 + (1 : Int32))) (lv' := [(3, .int (x3 + (1 : Int32))), (0, .ref h_t), (1, .int x1), (2, .int x2)]) hx hb dX4_reduceLast_69 hl (k := 3) rfl rfl (by decide) rfl (fun ls hl => ?_)
        refine lv_goto (tgt := 44) hx hb dX4_reduceLast_72 (by decide) ?_
        exact ih44 (x3 + (1 : Int32)) (upd t_cells (x1 + x3).toNatClampNeg r2) _ _ _ hf hP hD hS (lv_sub hl [1, 2, 3, 0] rfl)
  have L13 : ∀ (x1 : Int32) (t_cells : Nat → Int32) (n : Nat) (x2 : Int32) (x3 : Int32) (H : Heap) (locs : List Loc) (ls : Array Slot), gi2 (p_X4_reduceLast_13 n_t_cells t_cells x1 Q) n x2 x3 → va_P (dC, dI) vwCl [(h_t, .inr (1, [.ref h_t_cells, .int t_size])), (h_t_cells, .inl (cI, n_t_cells, .inl t_cells))] H → va_D A [(h_t, .inr (1, [.ref h_t_cells, .int t_size])), (h_t_cells, .inl (cI, n_t_cells, .inl t_cells))] → va_S A s.heap H locs → lv_has ls 4 [(0, .ref h_t), (1, .int x1), (2, .int x2), (3, .int x3)] → W p l e rm_X4_reduceLast s m [.ref h_t].toArray below meth c H locs 0 0 QQ (F0 m 13 ls []) := by
    intro x1 t_cells n
    induction n with
    | zero => intro x2 x3 H locs ls hf; exact False.elim hf
    | succ n ih13 =>
      generalize hK13 : gi2 (p_X4_reduceLast_13 n_t_cells t_cells x1 Q) n = K13 at ih13
      intro x2 x3 H locs ls hf hP hD hS hl
      have hf : p_X4_reduceLast_13 n_t_cells t_cells x1 Q (gi2 (p_X4_reduceLast_13 n_t_cells t_cells x1 Q) n) x2 x3 := hf
      rw [hK13] at hf
      refine lv_iload_n hx hb dX4_reduceLast_13 rfl (lv_at hl 3 rfl) ?_
      refine lv_iconst (v := (4 : Int32)) hx hb dX4_reduceLast_14 (by decide) ?_
      refine lv_icmp_ge (tgt := 37) hx hb dX4_reduceLast_15 (by decide) (fun hc8 => ?_) (fun hc8 => ?_)
      · have hf := hf.1 hc8
        refine lv_iload_n hx hb dX4_reduceLast_37 rfl (lv_at hl 2 rfl) ?_
        refine lv_iconst (v := (1 : Int32)) hx hb dX4_reduceLast_38 (by decide) ?_
        refine lv_icmp_le (tgt := 75) hx hb dX4_reduceLast_39 (by decide) (fun hc5 => ?_) (fun hc5 => ?_)
        · have hf := hf.1 hc5
          exact ret _ _ _ _ t_cells hf hP hD hS dX4_reduceLast_75
        · have hf := hf.2 hc5
          refine lv_iconst (v := (0 : Int32)) hx hb dX4_reduceLast_42 (by decide) ?_
          refine lv_istore_n (lv' := [(3, .int (0 : Int32)), (0, .ref h_t), (1, .int x1), (2, .int x2)]) hx hb dX4_reduceLast_43 rfl hl (by decide) rfl (fun ls hl => ?_)
          obtain ⟨n, hf⟩ := hf
          exact L44 x1 x2 n (0 : Int32) t_cells _ _ _ hf hP hD hS (lv_sub hl [1, 2, 3, 0] rfl)
      · have hf := hf.2 hc8
        refine lv_iload_n hx hb dX4_reduceLast_18 rfl (lv_at hl 2 rfl) ?_
        refine lv_aload_n hx hb dX4_reduceLast_19 rfl (lv_at hl 0 rfl) ?_
        refine va_get (D := (dC, dI)) (ci := 1) (v := .ref h_t_cells) (C := RX4) (T := TX4) (N := 2) hx hb hts hinX4 hown hK hP 0 rfl rfl 0 (by decide) q2 (fun _ h9 => h9) rfl dX4_reduceLast_20 ?_
        refine lv_iload_n hx hb dX4_reduceLast_23 rfl (lv_at hl 1 rfl) ?_
        refine lv_iload_n hx hb dX4_reduceLast_24 rfl (lv_at hl 3 rfl) ?_
        refine lv_iadd hx hb dX4_reduceLast_25 ?_
        obtain ⟨hb6, hf⟩ := hf
        refine va_iald hx hb hK hP 1 0 rfl rfl hb6 dX4_reduceLast_26 ?_
        refine gz_i0 (va_runS (As := [.int x2, .int (t_cells (x1 + x3).toNatClampNeg)]) (rest := []) ⟨hx, hb, hml, hown, hts⟩ (c_X2_greatestDivisor l dC dI cI cJ cC cZ H.size x2 (t_cells (x1 + x3).toNatClampNeg) _ hf) (va_cwS 2 hts gX4_reduceLast_X2_greatestDivisor rfl rfl rfl (by decide +kernel) ⟨Nat.le_of_ble_eq_true rfl, Nat.le_of_ble_eq_true rfl⟩) ⟨gz_blind, gz_pre (gz_P_of hP (is := []) (wc := []) rfl) hK (hD.sub [] (by decide) rfl) gz_N0⟩ rfl rfl hl.1 rfl (lv_room (Nat.le_of_ble_eq_true rfl)) dX4_reduceLast_27 ⟨Nat.le_refl _, Nat.le_refl _⟩) hP hD hS hA (fun r7 H locs hf hP hS => ?_)
        refine lv_istore_n (lv' := [(2, .int r7), (0, .ref h_t), (1, .int x1), (3, .int x3)]) hx hb dX4_reduceLast_30 rfl hl (by decide) rfl (fun ls hl => ?_)
        refine lv_iinc (v := (x3 + (1 : Int32))) (lv' := [(3, .int (x3 + (1 : Int32))), (2, .int r7), (0, .ref h_t), (1, .int x1)]) hx hb dX4_reduceLast_31 hl (k := 3) rfl rfl (by decide) rfl (fun ls hl => ?_)
        refine lv_goto (tgt := 13) hx hb dX4_reduceLast_34 (by decide) ?_
        exact ih13 r7 (x3 + (1 : Int32)) _ _ _ hf hP hD hS (lv_sub hl [2, 3, 1, 0] rfl)
  have hf := hw
  refine lv_aload_n hx hb dX4_reduceLast_0 rfl (lv_at hl 0 rfl) ?_
  refine va_get (D := (dC, dI)) (ci := 1) (v := .int t_size) (C := RX4) (T := TX4) (N := 2) hx hb hts hinX4 hown hK hP 0 rfl rfl 1 (by decide) q0 (fun _ h9 => h9) rfl dX4_reduceLast_1 ?_
  refine lv_iconst (v := (1 : Int32)) hx hb dX4_reduceLast_4 (by decide) ?_
  refine lv_isub hx hb dX4_reduceLast_5 ?_
  refine lv_iconst (v := (5 : Int32)) hx hb dX4_reduceLast_6 (by decide) ?_
  refine lv_imul hx hb dX4_reduceLast_7 ?_
  refine lv_istore_n (lv' := [(1, .int ((t_size - (1 : Int32)) * (5 : Int32))), (0, .ref h_t)]) hx hb dX4_reduceLast_8 rfl hl (by decide) rfl (fun ls hl => ?_)
  refine lv_iconst (v := (0 : Int32)) hx hb dX4_reduceLast_9 (by decide) ?_
  refine lv_istore_n (lv' := [(2, .int (0 : Int32)), (1, .int ((t_size - (1 : Int32)) * (5 : Int32))), (0, .ref h_t)]) hx hb dX4_reduceLast_10 rfl hl (by decide) rfl (fun ls hl => ?_)
  refine lv_iconst (v := (0 : Int32)) hx hb dX4_reduceLast_11 (by decide) ?_
  refine lv_istore_n (lv' := [(3, .int (0 : Int32)), (2, .int (0 : Int32)), (1, .int ((t_size - (1 : Int32)) * (5 : Int32))), (0, .ref h_t)]) hx hb dX4_reduceLast_12 rfl hl (by decide) rfl (fun ls hl => ?_)
  obtain ⟨n, hf⟩ := hf
  exact L13 ((t_size - (1 : Int32)) * (5 : Int32)) t_cells n (0 : Int32) (0 : Int32) _ _ _ hf hP hD hS (lv_sub hl [3, 2, 1, 0] rfl)
abbrev rm_X4_putAlike : Room := { frames := 3, cells := 0, slots := 0, locals := 72 }
set_option maxHeartbeats 4000000 in
set_option maxRecDepth 100000 in
theorem c_X4_putAlike (l : Launch) (dC : Nat → ClassId) (dI : Nat → Nat → Nat) (cI cJ cC cZ : ClassId) (h_t h_t_cells h_a1 h_a1_cells : Nat) (sz : Nat) (n_t_cells : Nat) (n_a1_cells : Nat) (t_size : Int32) (t_cells : Nat → Int32) (a1_size : Int32) (a1_cells : Nat → Int32) (x2 : Int32) (Q : Int32 → (Nat → Int32) → Prop) (hw : p_X4_putAlike n_t_cells n_a1_cells t_size t_cells a1_cells x2 Q) : Met l yX4_putAlike wsX4_putAlike rm_X4_putAlike (va_Pc [.ref h_t, .ref h_a1, .int x2] (gz_B (dC, dI) (gz_T cI cJ cC cZ) [] sz [(h_t, .inr (1, [.ref h_t_cells, .int t_size])), (h_t_cells, .inl (cI, n_t_cells, .inl t_cells)), (h_a1, .inr (1, [.ref h_a1_cells, .int a1_size])), (h_a1_cells, .inl (cI, n_a1_cells, .inl a1_cells))])) (va_Qv (fun (u : Int32 × (Nat → Int32)) => Q u.1 u.2) (fun u t => gz_E (dC, dI) (gz_T cI cJ cC cZ) (va_A [(h_t, .inr (1, [.ref h_t_cells, .int t_size])), (h_t_cells, .inl (cI, n_t_cells, .inl t_cells)), (h_a1, .inr (1, [.ref h_a1_cells, .int a1_size])), (h_a1_cells, .inl (cI, n_a1_cells, .inl a1_cells))] sz) [(h_t, .inr (1, [.ref h_t_cells, .int u.1])), (h_t_cells, .inl (cI, n_t_cells, .inl u.2)), (h_a1, .inr (1, [.ref h_a1_cells, .int a1_size])), (h_a1_cells, .inl (cI, n_a1_cells, .inl a1_cells))] t) (va_A [(h_t, .inr (1, [.ref h_t_cells, .int t_size])), (h_t_cells, .inl (cI, n_t_cells, .inl t_cells)), (h_a1, .inr (1, [.ref h_a1_cells, .int a1_size])), (h_a1_cells, .inl (cI, n_a1_cells, .inl a1_cells))] sz)) 0 0 (va_A [(h_t, .inr (1, [.ref h_t_cells, .int t_size])), (h_t_cells, .inl (cI, n_t_cells, .inl t_cells)), (h_a1, .inr (1, [.ref h_a1_cells, .int a1_size])), (h_a1_cells, .inl (cI, n_a1_cells, .inl a1_cells))] sz) := by
  refine gz_mv (cc := cX4_putAlike) (maxL := 4) (plainFor_of_name (by decide +kernel)) rfl (Nat.le_of_ble_eq_true rfl) ?_
  intro p e s m below meth c A QQ ls hx hb hml hown0 hts hK hN hA hP hD hS hl ret
  have hown : s.vm.findClass RX4 = some m.cls := hown0
  have hl : lv_has ls 4 [(0, .ref h_t), (1, .ref h_a1), (2, .int x2)] := hl
  have q0 := hts (.fieldLink RX4 15 "DarkShadows$Rows" "size" "I") (List.mem_cons_of_mem _ (List.mem_append_left _ (List.mem_of_getElem? (i := 1) rfl)))
  have hinX4 : ∀ w ∈ wsX40, w ∈ wsX4_putAlike := fun w h => List.mem_cons_of_mem _ (List.mem_append_right _ h)
  have q2 := hts (.fieldLink RX4 11 "DarkShadows$Rows" "cells" "[I") (List.mem_cons_of_mem _ (List.mem_append_left _ (List.mem_of_getElem? (i := 0) rfl)))
  have L2 : ∀ (t_size : Int32) (n : Nat) (x3 : Int32) (t_cells : Nat → Int32) (H : Heap) (locs : List Loc) (ls : Array Slot), gi2 (p_X4_putAlike_2 n_t_cells n_a1_cells t_size a1_cells x2 Q) n x3 t_cells → va_P (dC, dI) vwCl [(h_t, .inr (1, [.ref h_t_cells, .int t_size])), (h_t_cells, .inl (cI, n_t_cells, .inl t_cells)), (h_a1, .inr (1, [.ref h_a1_cells, .int a1_size])), (h_a1_cells, .inl (cI, n_a1_cells, .inl a1_cells))] H → va_D A [(h_t, .inr (1, [.ref h_t_cells, .int t_size])), (h_t_cells, .inl (cI, n_t_cells, .inl t_cells)), (h_a1, .inr (1, [.ref h_a1_cells, .int a1_size])), (h_a1_cells, .inl (cI, n_a1_cells, .inl a1_cells))] → va_S A s.heap H locs → lv_has ls 4 [(0, .ref h_t), (1, .ref h_a1), (2, .int x2), (3, .int x3)] → W p l e rm_X4_putAlike s m [.ref h_t, .ref h_a1, .int x2].toArray below meth c H locs 0 0 QQ (F0 m 2 ls []) := by
    intro t_size n
    induction n with
    | zero => intro x3 t_cells H locs ls hf; exact False.elim hf
    | succ n ih2 =>
      generalize hK2 : gi2 (p_X4_putAlike_2 n_t_cells n_a1_cells t_size a1_cells x2 Q) n = K2 at ih2
      intro x3 t_cells H locs ls hf hP hD hS hl
      have hf : p_X4_putAlike_2 n_t_cells n_a1_cells t_size a1_cells x2 Q (gi2 (p_X4_putAlike_2 n_t_cells n_a1_cells t_size a1_cells x2 Q) n) x3 t_cells := hf
      rw [hK2] at hf
      refine lv_iload_n hx hb dX4_putAlike_2 rfl (lv_at hl 3 rfl) ?_
      refine lv_iconst (v := (5 : Int32)) hx hb dX4_putAlike_3 (by decide) ?_
      refine lv_icmp_ge (tgt := 32) hx hb dX4_putAlike_4 (by decide) (fun hc4 => ?_) (fun hc4 => ?_)
      · have hf := hf.1 hc4
        refine lv_aload_n hx hb dX4_putAlike_32 rfl (lv_at hl 0 rfl) ?_
        refine lv_dup hx hb dX4_putAlike_33 rfl ?_
        refine va_get (D := (dC, dI)) (ci := 1) (v := .int t_size) (C := RX4) (T := TX4) (N := 2) hx hb hts hinX4 hown hK hP 0 rfl rfl 1 (by decide) q0 (fun _ h9 => h9) rfl dX4_putAlike_34 ?_
        refine lv_iconst (v := (1 : Int32)) hx hb dX4_putAlike_37 (by decide) ?_
        refine lv_iadd hx hb dX4_putAlike_38 ?_
        refine va_put (D := (dC, dI)) (ci := 1) (v := .int (t_size + (1 : Int32))) (ty := .int) (C := RX4) (T := TX4) (N := 2) hx hb hts hinX4 tyX4 tyX4_ok nmX4 hown hK hP hD hS 0 rfl rfl 1 (by decide) q0 (fun _ h9 => h9) rfl (by decide +kernel) rfl rfl (Nat.le_of_ble_eq_true rfl) dX4_putAlike_39 (fun H locs hP hD hS => ?_)
        have hP : va_P (dC, dI) vwCl [(h_t, .inr (1, [.ref h_t_cells, .int (t_size + (1 : Int32))])), (h_t_cells, .inl (cI, n_t_cells, .inl t_cells)), (h_a1, .inr (1, [.ref h_a1_cells, .int a1_size])), (h_a1_cells, .inl (cI, n_a1_cells, .inl a1_cells))] H := hP
        have hD : va_D A [(h_t, .inr (1, [.ref h_t_cells, .int (t_size + (1 : Int32))])), (h_t_cells, .inl (cI, n_t_cells, .inl t_cells)), (h_a1, .inr (1, [.ref h_a1_cells, .int a1_size])), (h_a1_cells, .inl (cI, n_a1_cells, .inl a1_cells))] := hD
        refine lv_aload_n hx hb dX4_putAlike_42 rfl (lv_at hl 0 rfl) ?_
        refine gz_v (W1 := (fun u : (Nat → Int32) => [(h_t, .inr (1, [.ref h_t_cells, .int (t_size + (1 : Int32))])), (h_t_cells, .inl (cI, n_t_cells, .inl u))])) (wn := (fun u : (Nat → Int32) => [(h_t, .inr (1, [.ref h_t_cells, .int (t_size + (1 : Int32))])), (h_t_cells, .inl (cI, n_t_cells, .inl u)), (h_a1, .inr (1, [.ref h_a1_cells, .int a1_size])), (h_a1_cells, .inl (cI, n_a1_cells, .inl a1_cells))])) (wr := [(h_a1, .inr (1, [.ref h_a1_cells, .int a1_size])), (h_a1_cells, .inl (cI, n_a1_cells, .inl a1_cells))]) (va_runV (As := []) (rest := []) ⟨hx, hb, hml, hown, hts⟩ (c_X4_reduceLast l dC dI cI cJ cC cZ h_t h_t_cells H.size n_t_cells (t_size + (1 : Int32)) t_cells _ hf) (cwV 0 hts gX4_putAlike_X4_reduceLast rfl rfl rfl (by decide +kernel) ⟨Nat.le_of_ble_eq_true rfl, Nat.le_of_ble_eq_true rfl⟩) ⟨gz_blind, va_recv hK hP (ci := 1) (q0 := 0) rfl rfl, gz_pre (gz_P_of hP (is := [0, 1]) (wc := [(h_t, .inr (1, [.ref h_t_cells, .int (t_size + (1 : Int32))])), (h_t_cells, .inl (cI, n_t_cells, .inl t_cells))]) rfl) hK (hD.sub [0, 1] (by decide) rfl) gz_N0⟩ rfl rfl hl.1 rfl (lv_room (Nat.le_of_ble_eq_true rfl)) dX4_putAlike_43 ⟨Nat.le_refl _, Nat.le_refl _⟩) hP hD hS hA [0, 1] [2, 3] [2, 3, 0, 1] rfl rfl (by decide) (by decide) (fun _ => rfl) (by decide) (fun  y1 H locs hf hP hD hS => ?_)
        have hP : va_P (dC, dI) vwCl [(h_t, .inr (1, [.ref h_t_cells, .int (t_size + (1 : Int32))])), (h_t_cells, .inl (cI, n_t_cells, .inl y1)), (h_a1, .inr (1, [.ref h_a1_cells, .int a1_size])), (h_a1_cells, .inl (cI, n_a1_cells, .inl a1_cells))] H := hP
        have hD : va_D A [(h_t, .inr (1, [.ref h_t_cells, .int (t_size + (1 : Int32))])), (h_t_cells, .inl (cI, n_t_cells, .inl y1)), (h_a1, .inr (1, [.ref h_a1_cells, .int a1_size])), (h_a1_cells, .inl (cI, n_a1_cells, .inl a1_cells))] := hD
        exact ret _ _ _ _ ((t_size + (1 : Int32)), y1) hf hP hD hS dX4_putAlike_46
      · have hf := hf.2 hc4
        refine lv_aload_n hx hb dX4_putAlike_7 rfl (lv_at hl 0 rfl) ?_
        refine va_get (D := (dC, dI)) (ci := 1) (v := .ref h_t_cells) (C := RX4) (T := TX4) (N := 2) hx hb hts hinX4 hown hK hP 0 rfl rfl 0 (by decide) q2 (fun _ h9 => h9) rfl dX4_putAlike_8 ?_
        refine lv_aload_n hx hb dX4_putAlike_11 rfl (lv_at hl 0 rfl) ?_
        refine va_get (D := (dC, dI)) (ci := 1) (v := .int t_size) (C := RX4) (T := TX4) (N := 2) hx hb hts hinX4 hown hK hP 0 rfl rfl 1 (by decide) q0 (fun _ h9 => h9) rfl dX4_putAlike_12 ?_
        refine lv_iconst (v := (5 : Int32)) hx hb dX4_putAlike_15 (by decide) ?_
        refine lv_imul hx hb dX4_putAlike_16 ?_
        refine lv_iload_n hx hb dX4_putAlike_17 rfl (lv_at hl 3 rfl) ?_
        refine lv_iadd hx hb dX4_putAlike_18 ?_
        refine lv_aload_n hx hb dX4_putAlike_19 rfl (lv_at hl 1 rfl) ?_
        refine lv_iload_n hx hb dX4_putAlike_20 rfl (lv_at hl 2 rfl) ?_
        refine lv_iload_n hx hb dX4_putAlike_21 rfl (lv_at hl 3 rfl) ?_
        refine gz_iR (va_runV (As := [.int x2, .int x3]) (rest := [.int ((t_size * (5 : Int32)) + x3), .ref h_t_cells]) ⟨hx, hb, hml, hown, hts⟩ (c_X4_cell l dC dI cI cJ cC cZ h_a1 h_a1_cells H.size n_a1_cells a1_size a1_cells x2 x3 _ hf) (cwV 2 hts gX4_putAlike_X4_cell rfl rfl rfl (by decide +kernel) ⟨Nat.le_of_ble_eq_true rfl, Nat.le_of_ble_eq_true rfl⟩) ⟨gz_blind, va_recv hK hP (ci := 1) (q0 := 2) rfl rfl, gz_pre (gz_P_of hP (is := [2, 3]) (wc := [(h_a1, .inr (1, [.ref h_a1_cells, .int a1_size])), (h_a1_cells, .inl (cI, n_a1_cells, .inl a1_cells))]) rfl) hK (hD.sub [2, 3] (by decide) rfl) gz_N0⟩ rfl rfl hl.1 rfl (lv_room (Nat.le_of_ble_eq_true rfl)) dX4_putAlike_22 ⟨Nat.le_refl _, Nat.le_refl _⟩) hP hD hS hA [2, 3] rfl (fun r2 H locs hf hP hS => ?_)
        obtain ⟨hb3, hf⟩ := hf
        refine va_iast hx hb hK hP hD hS 1 0 rfl rfl hb3 dX4_putAlike_25 (fun H locs hP hD hS => ?_)
        have hP : va_P (dC, dI) vwCl [(h_t, .inr (1, [.ref h_t_cells, .int t_size])), (h_t_cells, .inl (cI, n_t_cells, .inl (upd t_cells ((t_size * (5 : Int32)) + x3).toNatClampNeg r2))), (h_a1, .inr (1, [.ref h_a1_cells, .int a1_size])), (h_a1_cells, .inl (cI, n_a1_cells, .inl a1_cells))] H := hP
        have hD : va_D A [(h_t, .inr (1, [.ref h_t_cells, .int t_size])), (h_t_cells, .inl (cI, n_t_cells, .inl (upd t_cells ((t_size * (5 : Int32)) + x3).toNatClampNeg r2))), (h_a1, .inr (1, [.ref h_a1_cells, .int a1_size])), (h_a1_cells, .inl (cI, n_a1_cells, .inl a1_cells))] := hD
        refine lv_iinc (v := (x3 + (1 : Int32))) (lv' := [(3, .int (x3 + (1 : Int32))), (0, .ref h_t), (1, .ref h_a1), (2, .int x2)]) hx hb dX4_putAlike_26 hl (k := 3) rfl rfl (by decide) rfl (fun ls hl => ?_)
        refine lv_goto (tgt := 2) hx hb dX4_putAlike_29 (by decide) ?_
        exact ih2 (x3 + (1 : Int32)) (upd t_cells ((t_size * (5 : Int32)) + x3).toNatClampNeg r2) _ _ _ hf hP hD hS (lv_sub hl [1, 2, 3, 0] rfl)
  have hf := hw
  refine lv_iconst (v := (0 : Int32)) hx hb dX4_putAlike_0 (by decide) ?_
  refine lv_istore_n (lv' := [(3, .int (0 : Int32)), (0, .ref h_t), (1, .ref h_a1), (2, .int x2)]) hx hb dX4_putAlike_1 rfl hl (by decide) rfl (fun ls hl => ?_)
  obtain ⟨n, hf⟩ := hf
  exact L2 t_size n (0 : Int32) t_cells _ _ _ hf hP hD hS (lv_sub hl [1, 2, 3, 0] rfl)
abbrev rm_X4_putPair : Room := { frames := 3, cells := 0, slots := 0, locals := 72 }
set_option maxHeartbeats 4000000 in
set_option maxRecDepth 100000 in
theorem c_X4_putPair (l : Launch) (dC : Nat → ClassId) (dI : Nat → Nat → Nat) (cI cJ cC cZ : ClassId) (h_t h_t_cells h_a1 h_a1_cells : Nat) (sz : Nat) (n_t_cells : Nat) (n_a1_cells : Nat) (t_size : Int32) (t_cells : Nat → Int32) (a1_size : Int32) (a1_cells : Nat → Int32) (x2 : Int32) (x3 : Int32) (x4 : Int32) (x5 : Int32) (Q : Int32 → (Nat → Int32) → Prop) (hw : p_X4_putPair n_t_cells n_a1_cells t_size t_cells a1_cells x2 x3 x4 x5 Q) : Met l yX4_putPair wsX4_putPair rm_X4_putPair (va_Pc [.ref h_t, .ref h_a1, .int x2, .int x3, .int x4, .int x5] (gz_B (dC, dI) (gz_T cI cJ cC cZ) [] sz [(h_t, .inr (1, [.ref h_t_cells, .int t_size])), (h_t_cells, .inl (cI, n_t_cells, .inl t_cells)), (h_a1, .inr (1, [.ref h_a1_cells, .int a1_size])), (h_a1_cells, .inl (cI, n_a1_cells, .inl a1_cells))])) (va_Qv (fun (u : Int32 × (Nat → Int32)) => Q u.1 u.2) (fun u t => gz_E (dC, dI) (gz_T cI cJ cC cZ) (va_A [(h_t, .inr (1, [.ref h_t_cells, .int t_size])), (h_t_cells, .inl (cI, n_t_cells, .inl t_cells)), (h_a1, .inr (1, [.ref h_a1_cells, .int a1_size])), (h_a1_cells, .inl (cI, n_a1_cells, .inl a1_cells))] sz) [(h_t, .inr (1, [.ref h_t_cells, .int u.1])), (h_t_cells, .inl (cI, n_t_cells, .inl u.2)), (h_a1, .inr (1, [.ref h_a1_cells, .int a1_size])), (h_a1_cells, .inl (cI, n_a1_cells, .inl a1_cells))] t) (va_A [(h_t, .inr (1, [.ref h_t_cells, .int t_size])), (h_t_cells, .inl (cI, n_t_cells, .inl t_cells)), (h_a1, .inr (1, [.ref h_a1_cells, .int a1_size])), (h_a1_cells, .inl (cI, n_a1_cells, .inl a1_cells))] sz)) 0 0 (va_A [(h_t, .inr (1, [.ref h_t_cells, .int t_size])), (h_t_cells, .inl (cI, n_t_cells, .inl t_cells)), (h_a1, .inr (1, [.ref h_a1_cells, .int a1_size])), (h_a1_cells, .inl (cI, n_a1_cells, .inl a1_cells))] sz) := by
  refine gz_mv (cc := cX4_putPair) (maxL := 9) (plainFor_of_name (by decide +kernel)) rfl (Nat.le_of_ble_eq_true rfl) ?_
  intro p e s m below meth c A QQ ls hx hb hml hown0 hts hK hN hA hP hD hS hl ret
  have hown : s.vm.findClass RX4 = some m.cls := hown0
  have hl : lv_has ls 9 [(0, .ref h_t), (1, .ref h_a1), (2, .int x2), (3, .int x3), (4, .int x4), (5, .int x5)] := hl
  have q0 := hts (.fieldLink RX4 11 "DarkShadows$Rows" "cells" "[I") (List.mem_cons_of_mem _ (List.mem_append_left _ (List.mem_of_getElem? (i := 0) rfl)))
  have hinX4 : ∀ w ∈ wsX40, w ∈ wsX4_putPair := fun w h => List.mem_cons_of_mem _ (List.mem_append_right _ h)
  have q2 := hts (.fieldLink RX4 15 "DarkShadows$Rows" "size" "I") (List.mem_cons_of_mem _ (List.mem_append_left _ (List.mem_of_getElem? (i := 1) rfl)))
  have L101 : ∀ (t_size : Int32) (t_cells : Nat → Int32) (s1 : Int32) (s2 : Int32) (s3 : Int32) (H : Heap) (locs : List Loc) (ls : Array Slot), p_X4_putPair_101 n_t_cells t_size t_cells s1 s2 s3 Q → va_P (dC, dI) vwCl [(h_t, .inr (1, [.ref h_t_cells, .int t_size])), (h_t_cells, .inl (cI, n_t_cells, .inl t_cells)), (h_a1, .inr (1, [.ref h_a1_cells, .int a1_size])), (h_a1_cells, .inl (cI, n_a1_cells, .inl a1_cells))] H → va_D A [(h_t, .inr (1, [.ref h_t_cells, .int t_size])), (h_t_cells, .inl (cI, n_t_cells, .inl t_cells)), (h_a1, .inr (1, [.ref h_a1_cells, .int a1_size])), (h_a1_cells, .inl (cI, n_a1_cells, .inl a1_cells))] → va_S A s.heap H locs → lv_has ls 9 [(0, .ref h_t)] → W p l e rm_X4_putPair s m [.ref h_t, .ref h_a1, .int x2, .int x3, .int x4, .int x5].toArray below meth c H locs 0 0 QQ (F0 m 101 ls [.int s3, .int s2, .int s1, .ref h_t_cells]) := by
    intro t_size t_cells s1 s2 s3 H locs ls hf hP hD hS hl
    refine lv_isub hx hb dX4_putPair_101 ?_
    obtain ⟨hb4, hf⟩ := hf
    refine va_iast hx hb hK hP hD hS 1 0 rfl rfl hb4 dX4_putPair_102 (fun H locs hP hD hS => ?_)
    have hP : va_P (dC, dI) vwCl [(h_t, .inr (1, [.ref h_t_cells, .int t_size])), (h_t_cells, .inl (cI, n_t_cells, .inl (upd t_cells s1.toNatClampNeg (s2 - s3)))), (h_a1, .inr (1, [.ref h_a1_cells, .int a1_size])), (h_a1_cells, .inl (cI, n_a1_cells, .inl a1_cells))] H := hP
    have hD : va_D A [(h_t, .inr (1, [.ref h_t_cells, .int t_size])), (h_t_cells, .inl (cI, n_t_cells, .inl (upd t_cells s1.toNatClampNeg (s2 - s3)))), (h_a1, .inr (1, [.ref h_a1_cells, .int a1_size])), (h_a1_cells, .inl (cI, n_a1_cells, .inl a1_cells))] := hD
    refine lv_aload_n hx hb dX4_putPair_103 rfl (lv_at hl 0 rfl) ?_
    refine lv_dup hx hb dX4_putPair_104 rfl ?_
    refine va_get (D := (dC, dI)) (ci := 1) (v := .int t_size) (C := RX4) (T := TX4) (N := 2) hx hb hts hinX4 hown hK hP 0 rfl rfl 1 (by decide) q2 (fun _ h9 => h9) rfl dX4_putPair_105 ?_
    refine lv_iconst (v := (1 : Int32)) hx hb dX4_putPair_108 (by decide) ?_
    refine lv_iadd hx hb dX4_putPair_109 ?_
    refine va_put (D := (dC, dI)) (ci := 1) (v := .int (t_size + (1 : Int32))) (ty := .int) (C := RX4) (T := TX4) (N := 2) hx hb hts hinX4 tyX4 tyX4_ok nmX4 hown hK hP hD hS 0 rfl rfl 1 (by decide) q2 (fun _ h9 => h9) rfl (by decide +kernel) rfl rfl (Nat.le_of_ble_eq_true rfl) dX4_putPair_110 (fun H locs hP hD hS => ?_)
    have hP : va_P (dC, dI) vwCl [(h_t, .inr (1, [.ref h_t_cells, .int (t_size + (1 : Int32))])), (h_t_cells, .inl (cI, n_t_cells, .inl (upd t_cells s1.toNatClampNeg (s2 - s3)))), (h_a1, .inr (1, [.ref h_a1_cells, .int a1_size])), (h_a1_cells, .inl (cI, n_a1_cells, .inl a1_cells))] H := hP
    have hD : va_D A [(h_t, .inr (1, [.ref h_t_cells, .int (t_size + (1 : Int32))])), (h_t_cells, .inl (cI, n_t_cells, .inl (upd t_cells s1.toNatClampNeg (s2 - s3)))), (h_a1, .inr (1, [.ref h_a1_cells, .int a1_size])), (h_a1_cells, .inl (cI, n_a1_cells, .inl a1_cells))] := hD
    refine lv_aload_n hx hb dX4_putPair_113 rfl (lv_at hl 0 rfl) ?_
    refine gz_v (W1 := (fun u : (Nat → Int32) => [(h_t, .inr (1, [.ref h_t_cells, .int (t_size + (1 : Int32))])), (h_t_cells, .inl (cI, n_t_cells, .inl u))])) (wn := (fun u : (Nat → Int32) => [(h_t, .inr (1, [.ref h_t_cells, .int (t_size + (1 : Int32))])), (h_t_cells, .inl (cI, n_t_cells, .inl u)), (h_a1, .inr (1, [.ref h_a1_cells, .int a1_size])), (h_a1_cells, .inl (cI, n_a1_cells, .inl a1_cells))])) (wr := [(h_a1, .inr (1, [.ref h_a1_cells, .int a1_size])), (h_a1_cells, .inl (cI, n_a1_cells, .inl a1_cells))]) (va_runV (As := []) (rest := []) ⟨hx, hb, hml, hown, hts⟩ (c_X4_reduceLast l dC dI cI cJ cC cZ h_t h_t_cells H.size n_t_cells (t_size + (1 : Int32)) (upd t_cells s1.toNatClampNeg (s2 - s3)) _ hf) (cwV 0 hts gX4_putPair_X4_reduceLast rfl rfl rfl (by decide +kernel) ⟨Nat.le_of_ble_eq_true rfl, Nat.le_of_ble_eq_true rfl⟩) ⟨gz_blind, va_recv hK hP (ci := 1) (q0 := 0) rfl rfl, gz_pre (gz_P_of hP (is := [0, 1]) (wc := [(h_t, .inr (1, [.ref h_t_cells, .int (t_size + (1 : Int32))])), (h_t_cells, .inl (cI, n_t_cells, .inl (upd t_cells s1.toNatClampNeg (s2 - s3))))]) rfl) hK (hD.sub [0, 1] (by decide) rfl) gz_N0⟩ rfl rfl hl.1 rfl (lv_room (Nat.le_of_ble_eq_true rfl)) dX4_putPair_114 ⟨Nat.le_refl _, Nat.le_refl _⟩) hP hD hS hA [0, 1] [2, 3] [2, 3, 0, 1] rfl rfl (by decide) (by decide) (fun _ => rfl) (by decide) (fun  y5 H locs hf hP hD hS => ?_)
    have hP : va_P (dC, dI) vwCl [(h_t, .inr (1, [.ref h_t_cells, .int (t_size + (1 : Int32))])), (h_t_cells, .inl (cI, n_t_cells, .inl y5)), (h_a1, .inr (1, [.ref h_a1_cells, .int a1_size])), (h_a1_cells, .inl (cI, n_a1_cells, .inl a1_cells))] H := hP
    have hD : va_D A [(h_t, .inr (1, [.ref h_t_cells, .int (t_size + (1 : Int32))])), (h_t_cells, .inl (cI, n_t_cells, .inl y5)), (h_a1, .inr (1, [.ref h_a1_cells, .int a1_size])), (h_a1_cells, .inl (cI, n_a1_cells, .inl a1_cells))] := hD
    exact ret _ _ _ _ ((t_size + (1 : Int32)), y5) hf hP hD hS dX4_putPair_117
  have L22 : ∀ (x6 : Int32) (x7 : Int32) (t_size : Int32) (n : Nat) (x8 : Int32) (t_cells : Nat → Int32) (H : Heap) (locs : List Loc) (ls : Array Slot), gi2 (p_X4_putPair_22 n_t_cells n_a1_cells t_size a1_cells x2 x3 x5 x6 x7 Q) n x8 t_cells → va_P (dC, dI) vwCl [(h_t, .inr (1, [.ref h_t_cells, .int t_size])), (h_t_cells, .inl (cI, n_t_cells, .inl t_cells)), (h_a1, .inr (1, [.ref h_a1_cells, .int a1_size])), (h_a1_cells, .inl (cI, n_a1_cells, .inl a1_cells))] H → va_D A [(h_t, .inr (1, [.ref h_t_cells, .int t_size])), (h_t_cells, .inl (cI, n_t_cells, .inl t_cells)), (h_a1, .inr (1, [.ref h_a1_cells, .int a1_size])), (h_a1_cells, .inl (cI, n_a1_cells, .inl a1_cells))] → va_S A s.heap H locs → lv_has ls 9 [(0, .ref h_t), (1, .ref h_a1), (2, .int x2), (3, .int x3), (5, .int x5), (6, .int x6), (7, .int x7), (8, .int x8)] → W p l e rm_X4_putPair s m [.ref h_t, .ref h_a1, .int x2, .int x3, .int x4, .int x5].toArray below meth c H locs 0 0 QQ (F0 m 22 ls []) := by
    intro x6 x7 t_size n
    induction n with
    | zero => intro x8 t_cells H locs ls hf; exact False.elim hf
    | succ n ih22 =>
      generalize hK22 : gi2 (p_X4_putPair_22 n_t_cells n_a1_cells t_size a1_cells x2 x3 x5 x6 x7 Q) n = K22 at ih22
      intro x8 t_cells H locs ls hf hP hD hS hl
      have hf : p_X4_putPair_22 n_t_cells n_a1_cells t_size a1_cells x2 x3 x5 x6 x7 Q (gi2 (p_X4_putPair_22 n_t_cells n_a1_cells t_size a1_cells x2 x3 x5 x6 x7 Q) n) x8 t_cells := hf
      rw [hK22] at hf
      refine lv_iload hx hb dX4_putPair_22 (lv_at hl 7 rfl) ?_
      refine lv_iconst (v := (5 : Int32)) hx hb dX4_putPair_24 (by decide) ?_
      refine lv_icmp_ge (tgt := 69) hx hb dX4_putPair_25 (by decide) (fun hc10 => ?_) (fun hc10 => ?_)
      · have hf := hf.1 hc10
        refine lv_aload_n hx hb dX4_putPair_69 rfl (lv_at hl 0 rfl) ?_
        refine va_get (D := (dC, dI)) (ci := 1) (v := .ref h_t_cells) (C := RX4) (T := TX4) (N := 2) hx hb hts hinX4 hown hK hP 0 rfl rfl 0 (by decide) q0 (fun _ h9 => h9) rfl dX4_putPair_70 ?_
        refine lv_aload_n hx hb dX4_putPair_73 rfl (lv_at hl 0 rfl) ?_
        refine va_get (D := (dC, dI)) (ci := 1) (v := .int t_size) (C := RX4) (T := TX4) (N := 2) hx hb hts hinX4 hown hK hP 0 rfl rfl 1 (by decide) q2 (fun _ h9 => h9) rfl dX4_putPair_74 ?_
        refine lv_iconst (v := (5 : Int32)) hx hb dX4_putPair_77 (by decide) ?_
        refine lv_imul hx hb dX4_putPair_78 ?_
        refine lv_iconst (v := (4 : Int32)) hx hb dX4_putPair_79 (by decide) ?_
        refine lv_iadd hx hb dX4_putPair_80 ?_
        refine lv_dup2_11 hx hb dX4_putPair_81 rfl rfl ?_
        obtain ⟨hb3, hf⟩ := hf
        refine va_iald hx hb hK hP 1 0 rfl rfl hb3 dX4_putPair_82 ?_
        refine lv_iload hx hb dX4_putPair_83 (lv_at hl 4 rfl) ?_
        refine lv_if_eq (tgt := 100) hx hb dX4_putPair_85 (by decide) (fun hc6 => ?_) (fun hc6 => ?_)
        · have hf := hf.1 hc6
          refine lv_iconst (v := (0 : Int32)) hx hb dX4_putPair_100 (by decide) ?_
          exact L101 t_size t_cells ((t_size * (5 : Int32)) + (4 : Int32)) (t_cells ((t_size * (5 : Int32)) + (4 : Int32)).toNatClampNeg) (0 : Int32) _ _ _ hf hP hD hS (lv_sub hl [0] rfl)
        · have hf := hf.2 hc6
          refine lv_iload hx hb dX4_putPair_88 (lv_at hl 5 rfl) ?_
          refine lv_iconst (v := (1 : Int32)) hx hb dX4_putPair_90 (by decide) ?_
          refine lv_isub hx hb dX4_putPair_91 ?_
          refine lv_iload hx hb dX4_putPair_92 (lv_at hl 6 rfl) ?_
          refine lv_iconst (v := (1 : Int32)) hx hb dX4_putPair_94 (by decide) ?_
          refine lv_isub hx hb dX4_putPair_95 ?_
          refine lv_imul hx hb dX4_putPair_96 ?_
          refine lv_goto (tgt := 101) hx hb dX4_putPair_97 (by decide) ?_
          exact L101 t_size t_cells ((t_size * (5 : Int32)) + (4 : Int32)) (t_cells ((t_size * (5 : Int32)) + (4 : Int32)).toNatClampNeg) ((x6 - (1 : Int32)) * (x7 - (1 : Int32))) _ _ _ hf hP hD hS (lv_sub hl [0] rfl)
      · have hf := hf.2 hc10
        refine lv_aload_n hx hb dX4_putPair_28 rfl (lv_at hl 0 rfl) ?_
        refine va_get (D := (dC, dI)) (ci := 1) (v := .ref h_t_cells) (C := RX4) (T := TX4) (N := 2) hx hb hts hinX4 hown hK hP 0 rfl rfl 0 (by decide) q0 (fun _ h9 => h9) rfl dX4_putPair_29 ?_
        refine lv_aload_n hx hb dX4_putPair_32 rfl (lv_at hl 0 rfl) ?_
        refine va_get (D := (dC, dI)) (ci := 1) (v := .int t_size) (C := RX4) (T := TX4) (N := 2) hx hb hts hinX4 hown hK hP 0 rfl rfl 1 (by decide) q2 (fun _ h9 => h9) rfl dX4_putPair_33 ?_
        refine lv_iconst (v := (5 : Int32)) hx hb dX4_putPair_36 (by decide) ?_
        refine lv_imul hx hb dX4_putPair_37 ?_
        refine lv_iload hx hb dX4_putPair_38 (lv_at hl 7 rfl) ?_
        refine lv_iadd hx hb dX4_putPair_40 ?_
        refine lv_aload_n hx hb dX4_putPair_41 rfl (lv_at hl 1 rfl) ?_
        refine lv_iload_n hx hb dX4_putPair_42 rfl (lv_at hl 2 rfl) ?_
        refine lv_iload hx hb dX4_putPair_43 (lv_at hl 7 rfl) ?_
        refine gz_iR (va_runV (As := [.int x2, .int x8]) (rest := [.int ((t_size * (5 : Int32)) + x8), .ref h_t_cells]) ⟨hx, hb, hml, hown, hts⟩ (c_X4_cell l dC dI cI cJ cC cZ h_a1 h_a1_cells H.size n_a1_cells a1_size a1_cells x2 x8 _ hf) (cwV 2 hts gX4_putPair_X4_cell rfl rfl rfl (by decide +kernel) ⟨Nat.le_of_ble_eq_true rfl, Nat.le_of_ble_eq_true rfl⟩) ⟨gz_blind, va_recv hK hP (ci := 1) (q0 := 2) rfl rfl, gz_pre (gz_P_of hP (is := [2, 3]) (wc := [(h_a1, .inr (1, [.ref h_a1_cells, .int a1_size])), (h_a1_cells, .inl (cI, n_a1_cells, .inl a1_cells))]) rfl) hK (hD.sub [2, 3] (by decide) rfl) gz_N0⟩ rfl rfl hl.1 rfl (lv_room (Nat.le_of_ble_eq_true rfl)) dX4_putPair_45 ⟨Nat.le_refl _, Nat.le_refl _⟩) hP hD hS hA [2, 3] rfl (fun r7 H locs hf hP hS => ?_)
        refine lv_iload hx hb dX4_putPair_48 (lv_at hl 6 rfl) ?_
        refine lv_imul hx hb dX4_putPair_50 ?_
        refine lv_aload_n hx hb dX4_putPair_51 rfl (lv_at hl 1 rfl) ?_
        refine lv_iload_n hx hb dX4_putPair_52 rfl (lv_at hl 3 rfl) ?_
        refine lv_iload hx hb dX4_putPair_53 (lv_at hl 7 rfl) ?_
        refine gz_iR (va_runV (As := [.int x3, .int x8]) (rest := [.int (r7 * x7), .int ((t_size * (5 : Int32)) + x8), .ref h_t_cells]) ⟨hx, hb, hml, hown, hts⟩ (c_X4_cell l dC dI cI cJ cC cZ h_a1 h_a1_cells H.size n_a1_cells a1_size a1_cells x3 x8 _ hf) (cwV 2 hts gX4_putPair_X4_cell rfl rfl rfl (by decide +kernel) ⟨Nat.le_of_ble_eq_true rfl, Nat.le_of_ble_eq_true rfl⟩) ⟨gz_blind, va_recv hK hP (ci := 1) (q0 := 2) rfl rfl, gz_pre (gz_P_of hP (is := [2, 3]) (wc := [(h_a1, .inr (1, [.ref h_a1_cells, .int a1_size])), (h_a1_cells, .inl (cI, n_a1_cells, .inl a1_cells))]) rfl) hK (hD.sub [2, 3] (by decide) rfl) gz_N0⟩ rfl rfl hl.1 rfl (lv_room (Nat.le_of_ble_eq_true rfl)) dX4_putPair_55 ⟨Nat.le_refl _, Nat.le_refl _⟩) hP hD hS hA [2, 3] rfl (fun r8 H locs hf hP hS => ?_)
        refine lv_iload hx hb dX4_putPair_58 (lv_at hl 5 rfl) ?_
        refine lv_imul hx hb dX4_putPair_60 ?_
        refine lv_iadd hx hb dX4_putPair_61 ?_
        obtain ⟨hb9, hf⟩ := hf
        refine va_iast hx hb hK hP hD hS 1 0 rfl rfl hb9 dX4_putPair_62 (fun H locs hP hD hS => ?_)
        have hP : va_P (dC, dI) vwCl [(h_t, .inr (1, [.ref h_t_cells, .int t_size])), (h_t_cells, .inl (cI, n_t_cells, .inl (upd t_cells ((t_size * (5 : Int32)) + x8).toNatClampNeg ((r7 * x7) + (r8 * x6))))), (h_a1, .inr (1, [.ref h_a1_cells, .int a1_size])), (h_a1_cells, .inl (cI, n_a1_cells, .inl a1_cells))] H := hP
        have hD : va_D A [(h_t, .inr (1, [.ref h_t_cells, .int t_size])), (h_t_cells, .inl (cI, n_t_cells, .inl (upd t_cells ((t_size * (5 : Int32)) + x8).toNatClampNeg ((r7 * x7) + (r8 * x6))))), (h_a1, .inr (1, [.ref h_a1_cells, .int a1_size])), (h_a1_cells, .inl (cI, n_a1_cells, .inl a1_cells))] := hD
        refine lv_iinc (v := (x8 + (1 : Int32))) (lv' := [(8, .int (x8 + (1 : Int32))), (0, .ref h_t), (1, .ref h_a1), (2, .int x2), (3, .int x3), (5, .int x5), (6, .int x6), (7, .int x7)]) hx hb dX4_putPair_63 hl (k := 7) rfl rfl (by decide) rfl (fun ls hl => ?_)
        refine lv_goto (tgt := 22) hx hb dX4_putPair_66 (by decide) ?_
        exact ih22 (x8 + (1 : Int32)) (upd t_cells ((t_size * (5 : Int32)) + x8).toNatClampNeg ((r7 * x7) + (r8 * x6))) _ _ _ hf hP hD hS (lv_sub hl [1, 2, 3, 4, 5, 6, 7, 0] rfl)
  have hf := hw
  refine lv_aload_n hx hb dX4_putPair_0 rfl (lv_at hl 1 rfl) ?_
  refine lv_iload_n hx hb dX4_putPair_1 rfl (lv_at hl 2 rfl) ?_
  refine lv_iload hx hb dX4_putPair_2 (lv_at hl 4 rfl) ?_
  refine gz_iR (va_runV (As := [.int x2, .int x4]) (rest := []) ⟨hx, hb, hml, hown, hts⟩ (c_X4_cell l dC dI cI cJ cC cZ h_a1 h_a1_cells s.heap.size n_a1_cells a1_size a1_cells x2 x4 _ hf) (cwV 2 hts gX4_putPair_X4_cell rfl rfl rfl (by decide +kernel) ⟨Nat.le_of_ble_eq_true rfl, Nat.le_of_ble_eq_true rfl⟩) ⟨gz_blind, va_recv hK hP (ci := 1) (q0 := 2) rfl rfl, gz_pre (gz_P_of hP (is := [2, 3]) (wc := [(h_a1, .inr (1, [.ref h_a1_cells, .int a1_size])), (h_a1_cells, .inl (cI, n_a1_cells, .inl a1_cells))]) rfl) hK (hD.sub [2, 3] (by decide) rfl) gz_N0⟩ rfl rfl hl.1 rfl (lv_room (Nat.le_of_ble_eq_true rfl)) dX4_putPair_4 ⟨Nat.le_refl _, Nat.le_refl _⟩) hP hD hS hA [2, 3] rfl (fun r1 H locs hf hP hS => ?_)
  refine lv_istore (lv' := [(6, .int r1), (0, .ref h_t), (1, .ref h_a1), (2, .int x2), (3, .int x3), (4, .int x4), (5, .int x5)]) hx hb dX4_putPair_7 hl (by decide) rfl (fun ls hl => ?_)
  refine lv_aload_n hx hb dX4_putPair_9 rfl (lv_at hl 2 rfl) ?_
  refine lv_iload_n hx hb dX4_putPair_10 rfl (lv_at hl 4 rfl) ?_
  refine lv_iload hx hb dX4_putPair_11 (lv_at hl 5 rfl) ?_
  refine gz_iR (va_runV (As := [.int x3, .int x4]) (rest := []) ⟨hx, hb, hml, hown, hts⟩ (c_X4_cell l dC dI cI cJ cC cZ h_a1 h_a1_cells H.size n_a1_cells a1_size a1_cells x3 x4 _ hf) (cwV 2 hts gX4_putPair_X4_cell rfl rfl rfl (by decide +kernel) ⟨Nat.le_of_ble_eq_true rfl, Nat.le_of_ble_eq_true rfl⟩) ⟨gz_blind, va_recv hK hP (ci := 1) (q0 := 2) rfl rfl, gz_pre (gz_P_of hP (is := [2, 3]) (wc := [(h_a1, .inr (1, [.ref h_a1_cells, .int a1_size])), (h_a1_cells, .inl (cI, n_a1_cells, .inl a1_cells))]) rfl) hK (hD.sub [2, 3] (by decide) rfl) gz_N0⟩ rfl rfl hl.1 rfl (lv_room (Nat.le_of_ble_eq_true rfl)) dX4_putPair_13 ⟨Nat.le_refl _, Nat.le_refl _⟩) hP hD hS hA [2, 3] rfl (fun r2 H locs hf hP hS => ?_)
  refine lv_ineg hx hb dX4_putPair_16 ?_
  refine lv_istore (lv' := [(7, .int (-r2)), (6, .int r1), (0, .ref h_t), (1, .ref h_a1), (2, .int x2), (3, .int x3), (4, .int x4), (5, .int x5)]) hx hb dX4_putPair_17 hl (by decide) rfl (fun ls hl => ?_)
  refine lv_iconst (v := (0 : Int32)) hx hb dX4_putPair_19 (by decide) ?_
  refine lv_istore (lv' := [(8, .int (0 : Int32)), (7, .int (-r2)), (6, .int r1), (0, .ref h_t), (1, .ref h_a1), (2, .int x2), (3, .int x3), (4, .int x4), (5, .int x5)]) hx hb dX4_putPair_20 hl (by decide) rfl (fun ls hl => ?_)
  obtain ⟨n, hf⟩ := hf
  exact L22 r1 (-r2) t_size n (0 : Int32) t_cells _ _ _ hf hP hD hS (lv_sub hl [3, 4, 5, 6, 8, 2, 1, 0] rfl)
abbrev rm_X4_areFulfilled : Room := { frames := 1, cells := 0, slots := 0, locals := 21 }
set_option maxHeartbeats 4000000 in
set_option maxRecDepth 100000 in
theorem c_X4_areFulfilled (l : Launch) (dC : Nat → ClassId) (dI : Nat → Nat → Nat) (cI cJ cC cZ : ClassId) (h_t h_t_cells : Nat) (sz : Nat) (n_t_cells : Nat) (t_size : Int32) (t_cells : Nat → Int32) (x1 : Int32) (Q : Int32 → Prop) (hw : p_X4_areFulfilled n_t_cells t_size t_cells x1 Q) : Met l yX4_areFulfilled wsX4_areFulfilled rm_X4_areFulfilled (va_Pc [.ref h_t, .int x1] (gz_B (dC, dI) (gz_T cI cJ cC cZ) [] sz [(h_t, .inr (1, [.ref h_t_cells, .int t_size])), (h_t_cells, .inl (cI, n_t_cells, .inl t_cells))])) (va_Qi (fun (r : Int32) (u : Unit) => Q r) (fun u t => gz_E (dC, dI) (gz_T cI cJ cC cZ) (va_A [(h_t, .inr (1, [.ref h_t_cells, .int t_size])), (h_t_cells, .inl (cI, n_t_cells, .inl t_cells))] sz) [(h_t, .inr (1, [.ref h_t_cells, .int t_size])), (h_t_cells, .inl (cI, n_t_cells, .inl t_cells))] t) (va_A [(h_t, .inr (1, [.ref h_t_cells, .int t_size])), (h_t_cells, .inl (cI, n_t_cells, .inl t_cells))] sz)) 0 0 (va_A [(h_t, .inr (1, [.ref h_t_cells, .int t_size])), (h_t_cells, .inl (cI, n_t_cells, .inl t_cells))] sz) := by
  refine gz_mz (cc := cX4_areFulfilled) (maxL := 7) (plainFor_of_name (by decide +kernel)) rfl (Nat.le_of_ble_eq_true rfl) ?_
  intro p e s m below meth c A QQ ls hx hb hml hown0 hts hK hN hA hP hD hS hl ret
  have hown : s.vm.findClass RX4 = some m.cls := hown0
  have hl : lv_has ls 7 [(0, .ref h_t), (1, .int x1)] := hl
  have q0 := hts (.fieldLink RX4 15 "DarkShadows$Rows" "size" "I") (List.mem_cons_of_mem _ (List.mem_append_left _ (List.mem_of_getElem? (i := 0) rfl)))
  have hinX4 : ∀ w ∈ wsX40, w ∈ wsX4_areFulfilled := fun w h => List.mem_cons_of_mem _ (List.mem_append_right _ h)
  have q2 := hts (.fieldLink RX4 11 "DarkShadows$Rows" "cells" "[I") (List.mem_cons_of_mem _ (List.mem_append_left _ (List.mem_of_getElem? (i := 1) rfl)))
  have L29 : ∀ (x2 : Int32) (x3 : Int32) (x4 : Int32) (x5 : Int32) (n : Nat) (x6 : Int32) (H : Heap) (locs : List Loc) (ls : Array Slot), gi1 (p_X4_areFulfilled_29 n_t_cells t_size t_cells x2 x3 x4 x5 Q) n x6 → va_P (dC, dI) vwCl [(h_t, .inr (1, [.ref h_t_cells, .int t_size])), (h_t_cells, .inl (cI, n_t_cells, .inl t_cells))] H → va_D A [(h_t, .inr (1, [.ref h_t_cells, .int t_size])), (h_t_cells, .inl (cI, n_t_cells, .inl t_cells))] → va_S A s.heap H locs → lv_has ls 7 [(0, .ref h_t), (2, .int x2), (3, .int x3), (4, .int x4), (5, .int x5), (6, .int x6)] → W p l e rm_X4_areFulfilled s m [.ref h_t, .int x1].toArray below meth c H locs 0 0 QQ (F0 m 29 ls []) := by
    intro x2 x3 x4 x5 n
    induction n with
    | zero => intro x6 H locs ls hf; exact False.elim hf
    | succ n ih29 =>
      generalize hK29 : gi1 (p_X4_areFulfilled_29 n_t_cells t_size t_cells x2 x3 x4 x5 Q) n = K29 at ih29
      intro x6 H locs ls hf hP hD hS hl
      have hf : p_X4_areFulfilled_29 n_t_cells t_size t_cells x2 x3 x4 x5 Q (gi1 (p_X4_areFulfilled_29 n_t_cells t_size t_cells x2 x3 x4 x5 Q) n) x6 := hf
      rw [hK29] at hf
      refine lv_iload hx hb dX4_areFulfilled_29 (lv_at hl 5 rfl) ?_
      refine lv_aload_n hx hb dX4_areFulfilled_31 rfl (lv_at hl 0 rfl) ?_
      refine va_get (D := (dC, dI)) (ci := 1) (v := .int t_size) (C := RX4) (T := TX4) (N := 2) hx hb hts hinX4 hown hK hP 0 rfl rfl 1 (by decide) q0 (fun _ h9 => h9) rfl dX4_areFulfilled_32 ?_
      refine lv_iconst (v := (5 : Int32)) hx hb dX4_areFulfilled_35 (by decide) ?_
      refine lv_imul hx hb dX4_areFulfilled_36 ?_
      refine lv_icmp_ge (tgt := 108) hx hb dX4_areFulfilled_37 (by decide) (fun hc11 => ?_) (fun hc11 => ?_)
      · have hf := hf.1 hc11
        refine lv_iconst (v := (1 : Int32)) hx hb dX4_areFulfilled_108 (by decide) ?_
        exact ret _ _ _ _ (1 : Int32) () rfl hf hP hD hS dX4_areFulfilled_109
      · have hf := hf.2 hc11
        refine lv_aload_n hx hb dX4_areFulfilled_40 rfl (lv_at hl 0 rfl) ?_
        refine va_get (D := (dC, dI)) (ci := 1) (v := .ref h_t_cells) (C := RX4) (T := TX4) (N := 2) hx hb hts hinX4 hown hK hP 0 rfl rfl 0 (by decide) q2 (fun _ h9 => h9) rfl dX4_areFulfilled_41 ?_
        refine lv_iload hx hb dX4_areFulfilled_44 (lv_at hl 5 rfl) ?_
        obtain ⟨hb5, hf⟩ := hf
        refine va_iald hx hb hK hP 1 0 rfl rfl hb5 dX4_areFulfilled_46 ?_
        refine lv_iload_n hx hb dX4_areFulfilled_47 rfl (lv_at hl 1 rfl) ?_
        refine lv_imul hx hb dX4_areFulfilled_48 ?_
        refine lv_aload_n hx hb dX4_areFulfilled_49 rfl (lv_at hl 0 rfl) ?_
        refine va_get (D := (dC, dI)) (ci := 1) (v := .ref h_t_cells) (C := RX4) (T := TX4) (N := 2) hx hb hts hinX4 hown hK hP 0 rfl rfl 0 (by decide) q2 (fun _ h9 => h9) rfl dX4_areFulfilled_50 ?_
        refine lv_iload hx hb dX4_areFulfilled_53 (lv_at hl 5 rfl) ?_
        refine lv_iconst (v := (1 : Int32)) hx hb dX4_areFulfilled_55 (by decide) ?_
        refine lv_iadd hx hb dX4_areFulfilled_56 ?_
        obtain ⟨hb6, hf⟩ := hf
        refine va_iald hx hb hK hP 1 0 rfl rfl hb6 dX4_areFulfilled_57 ?_
        refine lv_iload_n hx hb dX4_areFulfilled_58 rfl (lv_at hl 2 rfl) ?_
        refine lv_imul hx hb dX4_areFulfilled_59 ?_
        refine lv_iadd hx hb dX4_areFulfilled_60 ?_
        refine lv_aload_n hx hb dX4_areFulfilled_61 rfl (lv_at hl 0 rfl) ?_
        refine va_get (D := (dC, dI)) (ci := 1) (v := .ref h_t_cells) (C := RX4) (T := TX4) (N := 2) hx hb hts hinX4 hown hK hP 0 rfl rfl 0 (by decide) q2 (fun _ h9 => h9) rfl dX4_areFulfilled_62 ?_
        refine lv_iload hx hb dX4_areFulfilled_65 (lv_at hl 5 rfl) ?_
        refine lv_iconst (v := (2 : Int32)) hx hb dX4_areFulfilled_67 (by decide) ?_
        refine lv_iadd hx hb dX4_areFulfilled_68 ?_
        obtain ⟨hb7, hf⟩ := hf
        refine va_iald hx hb hK hP 1 0 rfl rfl hb7 dX4_areFulfilled_69 ?_
        refine lv_iload hx hb dX4_areFulfilled_70 (lv_at hl 3 rfl) ?_
        refine lv_imul hx hb dX4_areFulfilled_72 ?_
        refine lv_iadd hx hb dX4_areFulfilled_73 ?_
        refine lv_aload_n hx hb dX4_areFulfilled_74 rfl (lv_at hl 0 rfl) ?_
        refine va_get (D := (dC, dI)) (ci := 1) (v := .ref h_t_cells) (C := RX4) (T := TX4) (N := 2) hx hb hts hinX4 hown hK hP 0 rfl rfl 0 (by decide) q2 (fun _ h9 => h9) rfl dX4_areFulfilled_75 ?_
        refine lv_iload hx hb dX4_areFulfilled_78 (lv_at hl 5 rfl) ?_
        refine lv_iconst (v := (3 : Int32)) hx hb dX4_areFulfilled_80 (by decide) ?_
        refine lv_iadd hx hb dX4_areFulfilled_81 ?_
        obtain ⟨hb8, hf⟩ := hf
        refine va_iald hx hb hK hP 1 0 rfl rfl hb8 dX4_areFulfilled_82 ?_
        refine lv_iload hx hb dX4_areFulfilled_83 (lv_at hl 4 rfl) ?_
        refine lv_imul hx hb dX4_areFulfilled_85 ?_
        refine lv_iadd hx hb dX4_areFulfilled_86 ?_
        refine lv_aload_n hx hb dX4_areFulfilled_87 rfl (lv_at hl 0 rfl) ?_
        refine va_get (D := (dC, dI)) (ci := 1) (v := .ref h_t_cells) (C := RX4) (T := TX4) (N := 2) hx hb hts hinX4 hown hK hP 0 rfl rfl 0 (by decide) q2 (fun _ h9 => h9) rfl dX4_areFulfilled_88 ?_
        refine lv_iload hx hb dX4_areFulfilled_91 (lv_at hl 5 rfl) ?_
        refine lv_iconst (v := (4 : Int32)) hx hb dX4_areFulfilled_93 (by decide) ?_
        refine lv_iadd hx hb dX4_areFulfilled_94 ?_
        obtain ⟨hb9, hf⟩ := hf
        refine va_iald hx hb hK hP 1 0 rfl rfl hb9 dX4_areFulfilled_95 ?_
        refine lv_iadd hx hb dX4_areFulfilled_96 ?_
        refine lv_if_ge (tgt := 102) hx hb dX4_areFulfilled_97 (by decide) (fun hc10 => ?_) (fun hc10 => ?_)
        · have hf := hf.1 hc10
          refine lv_iinc (v := (x6 + (5 : Int32))) (lv' := [(6, .int (x6 + (5 : Int32))), (0, .ref h_t), (2, .int x2), (3, .int x3), (4, .int x4), (5, .int x5)]) hx hb dX4_areFulfilled_102 hl (k := 5) rfl rfl (by decide) rfl (fun ls hl => ?_)
          refine lv_goto (tgt := 29) hx hb dX4_areFulfilled_105 (by decide) ?_
          exact ih29 (x6 + (5 : Int32)) _ _ _ hf hP hD hS (lv_sub hl [1, 2, 3, 4, 5, 0] rfl)
        · have hf := hf.2 hc10
          refine lv_iconst (v := (0 : Int32)) hx hb dX4_areFulfilled_100 (by decide) ?_
          exact ret _ _ _ _ (0 : Int32) () rfl hf hP hD hS dX4_areFulfilled_101
  have hf := hw
  refine lv_iload_n hx hb dX4_areFulfilled_0 rfl (lv_at hl 1 rfl) ?_
  refine lv_iconst (v := (0 : Int32)) hx hb dX4_areFulfilled_1 (by decide) ?_
  refine gz_i0 (va_runS (As := [.int x1, .int (0 : Int32)]) (rest := []) ⟨hx, hb, hml, hown, hts⟩ (c_X3_valueOf l dC dI cI cJ cC cZ s.heap.size x1 (0 : Int32) _ hf) (va_cwS 2 hts gX4_areFulfilled_X3_valueOf rfl rfl rfl (by decide +kernel) ⟨Nat.le_of_ble_eq_true rfl, Nat.le_of_ble_eq_true rfl⟩) ⟨gz_blind, gz_pre (gz_P_of hP (is := []) (wc := []) rfl) hK (hD.sub [] (by decide) rfl) gz_N0⟩ rfl rfl hl.1 rfl (lv_room (Nat.le_of_ble_eq_true rfl)) dX4_areFulfilled_2 ⟨Nat.le_refl _, Nat.le_refl _⟩) hP hD hS hA (fun r1 H locs hf hP hS => ?_)
  refine lv_istore_n (lv' := [(2, .int r1), (0, .ref h_t), (1, .int x1)]) hx hb dX4_areFulfilled_5 rfl hl (by decide) rfl (fun ls hl => ?_)
  refine lv_iload_n hx hb dX4_areFulfilled_6 rfl (lv_at hl 2 rfl) ?_
  refine lv_iconst (v := (1 : Int32)) hx hb dX4_areFulfilled_7 (by decide) ?_
  refine gz_i0 (va_runS (As := [.int x1, .int (1 : Int32)]) (rest := []) ⟨hx, hb, hml, hown, hts⟩ (c_X3_valueOf l dC dI cI cJ cC cZ H.size x1 (1 : Int32) _ hf) (va_cwS 2 hts gX4_areFulfilled_X3_valueOf rfl rfl rfl (by decide +kernel) ⟨Nat.le_of_ble_eq_true rfl, Nat.le_of_ble_eq_true rfl⟩) ⟨gz_blind, gz_pre (gz_P_of hP (is := []) (wc := []) rfl) hK (hD.sub [] (by decide) rfl) gz_N0⟩ rfl rfl hl.1 rfl (lv_room (Nat.le_of_ble_eq_true rfl)) dX4_areFulfilled_8 ⟨Nat.le_refl _, Nat.le_refl _⟩) hP hD hS hA (fun r2 H locs hf hP hS => ?_)
  refine lv_istore_n (lv' := [(3, .int r2), (2, .int r1), (0, .ref h_t), (1, .int x1)]) hx hb dX4_areFulfilled_11 rfl hl (by decide) rfl (fun ls hl => ?_)
  refine lv_iload_n hx hb dX4_areFulfilled_12 rfl (lv_at hl 3 rfl) ?_
  refine lv_iconst (v := (2 : Int32)) hx hb dX4_areFulfilled_13 (by decide) ?_
  refine gz_i0 (va_runS (As := [.int x1, .int (2 : Int32)]) (rest := []) ⟨hx, hb, hml, hown, hts⟩ (c_X3_valueOf l dC dI cI cJ cC cZ H.size x1 (2 : Int32) _ hf) (va_cwS 2 hts gX4_areFulfilled_X3_valueOf rfl rfl rfl (by decide +kernel) ⟨Nat.le_of_ble_eq_true rfl, Nat.le_of_ble_eq_true rfl⟩) ⟨gz_blind, gz_pre (gz_P_of hP (is := []) (wc := []) rfl) hK (hD.sub [] (by decide) rfl) gz_N0⟩ rfl rfl hl.1 rfl (lv_room (Nat.le_of_ble_eq_true rfl)) dX4_areFulfilled_14 ⟨Nat.le_refl _, Nat.le_refl _⟩) hP hD hS hA (fun r3 H locs hf hP hS => ?_)
  refine lv_istore (lv' := [(4, .int r3), (3, .int r2), (2, .int r1), (0, .ref h_t), (1, .int x1)]) hx hb dX4_areFulfilled_17 hl (by decide) rfl (fun ls hl => ?_)
  refine lv_iload_n hx hb dX4_areFulfilled_19 rfl (lv_at hl 4 rfl) ?_
  refine lv_iconst (v := (3 : Int32)) hx hb dX4_areFulfilled_20 (by decide) ?_
  refine gz_i0 (va_runS (As := [.int x1, .int (3 : Int32)]) (rest := []) ⟨hx, hb, hml, hown, hts⟩ (c_X3_valueOf l dC dI cI cJ cC cZ H.size x1 (3 : Int32) _ hf) (va_cwS 2 hts gX4_areFulfilled_X3_valueOf rfl rfl rfl (by decide +kernel) ⟨Nat.le_of_ble_eq_true rfl, Nat.le_of_ble_eq_true rfl⟩) ⟨gz_blind, gz_pre (gz_P_of hP (is := []) (wc := []) rfl) hK (hD.sub [] (by decide) rfl) gz_N0⟩ rfl rfl hl.1 rfl (lv_room (Nat.le_of_ble_eq_true rfl)) dX4_areFulfilled_21 ⟨Nat.le_refl _, Nat.le_refl _⟩) hP hD hS hA (fun r4 H locs hf hP hS => ?_)
  refine lv_istore (lv' := [(5, .int r4), (4, .int r3), (3, .int r2), (2, .int r1), (0, .ref h_t), (1, .int x1)]) hx hb dX4_areFulfilled_24 hl (by decide) rfl (fun ls hl => ?_)
  refine lv_iconst (v := (0 : Int32)) hx hb dX4_areFulfilled_26 (by decide) ?_
  refine lv_istore (lv' := [(6, .int (0 : Int32)), (5, .int r4), (4, .int r3), (3, .int r2), (2, .int r1), (0, .ref h_t), (1, .int x1)]) hx hb dX4_areFulfilled_27 hl (by decide) rfl (fun ls hl => ?_)
  obtain ⟨n, hf⟩ := hf
  exact L29 r1 r2 r3 r4 n (0 : Int32) _ _ _ hf hP hD hS (lv_sub hl [5, 4, 3, 2, 1, 0] rfl)
abbrev rm_X9_isInBox : Room := { frames := 1, cells := 0, slots := 0, locals := 21 }
set_option maxHeartbeats 4000000 in
set_option maxRecDepth 100000 in
theorem c_X9_isInBox (l : Launch) (dC : Nat → ClassId) (dI : Nat → Nat → Nat) (cI cJ cC cZ : ClassId) (h_t h_t_cells : Nat) (sz : Nat) (t_size : Int32) (t_most : Int32) (t_draw : Int32) (t_changes : Int32) (x1 : Int32) (Q : Int32 → Prop) (hw : p_X9_isInBox t_most x1 Q) : Met l yX9_isInBox wsX9_isInBox rm_X9_isInBox (va_Pc [.ref h_t, .int x1] (gz_B (dC, dI) (gz_T cI cJ cC cZ) [] sz [(h_t, .inr (6, [.ref h_t_cells, .int t_size, .int t_most, .int t_draw, .int t_changes]))])) (va_Qi (fun (r : Int32) (u : Unit) => Q r) (fun u t => gz_E (dC, dI) (gz_T cI cJ cC cZ) (va_A [(h_t, .inr (6, [.ref h_t_cells, .int t_size, .int t_most, .int t_draw, .int t_changes]))] sz) [(h_t, .inr (6, [.ref h_t_cells, .int t_size, .int t_most, .int t_draw, .int t_changes]))] t) (va_A [(h_t, .inr (6, [.ref h_t_cells, .int t_size, .int t_most, .int t_draw, .int t_changes]))] sz)) 0 0 (va_A [(h_t, .inr (6, [.ref h_t_cells, .int t_size, .int t_most, .int t_draw, .int t_changes]))] sz) := by
  refine gz_mz (cc := cX9_isInBox) (maxL := 3) (plainFor_of_name (by decide +kernel)) rfl (Nat.le_of_ble_eq_true rfl) ?_
  intro p e s m below meth c A QQ ls hx hb hml hown0 hts hK hN hA hP hD hS hl ret
  have hown : s.vm.findClass RX9 = some m.cls := hown0
  have hl : lv_has ls 3 [(0, .ref h_t), (1, .int x1)] := hl
  have q0 := hts (.fieldLink RX9 15 "DarkShadows$Told" "most" "I") (List.mem_cons_of_mem _ (List.mem_append_left _ (List.mem_of_getElem? (i := 0) rfl)))
  have hinX9 : ∀ w ∈ wsX90, w ∈ wsX9_isInBox := fun w h => List.mem_cons_of_mem _ (List.mem_append_right _ h)
  have L2 : ∀ (n : Nat) (x2 : Int32) (H : Heap) (locs : List Loc) (ls : Array Slot), gi1 (p_X9_isInBox_2 t_most x1 Q) n x2 → va_P (dC, dI) vwCl [(h_t, .inr (6, [.ref h_t_cells, .int t_size, .int t_most, .int t_draw, .int t_changes]))] H → va_D A [(h_t, .inr (6, [.ref h_t_cells, .int t_size, .int t_most, .int t_draw, .int t_changes]))] → va_S A s.heap H locs → lv_has ls 3 [(0, .ref h_t), (1, .int x1), (2, .int x2)] → W p l e rm_X9_isInBox s m [.ref h_t, .int x1].toArray below meth c H locs 0 0 QQ (F0 m 2 ls []) := by
    intro  n
    induction n with
    | zero => intro x2 H locs ls hf; exact False.elim hf
    | succ n ih2 =>
      generalize hK2 : gi1 (p_X9_isInBox_2 t_most x1 Q) n = K2 at ih2
      intro x2 H locs ls hf hP hD hS hl
      have hf : p_X9_isInBox_2 t_most x1 Q (gi1 (p_X9_isInBox_2 t_most x1 Q) n) x2 := hf
      rw [hK2] at hf
      refine lv_iload_n hx hb dX9_isInBox_2 rfl (lv_at hl 2 rfl) ?_
      refine lv_iconst (v := (4 : Int32)) hx hb dX9_isInBox_3 (by decide) ?_
      refine lv_icmp_ge (tgt := 27) hx hb dX9_isInBox_4 (by decide) (fun hc3 => ?_) (fun hc3 => ?_)
      · have hf := hf.1 hc3
        refine lv_iconst (v := (1 : Int32)) hx hb dX9_isInBox_27 (by decide) ?_
        exact ret _ _ _ _ (1 : Int32) () rfl hf hP hD hS dX9_isInBox_28
      · have hf := hf.2 hc3
        refine lv_iload_n hx hb dX9_isInBox_7 rfl (lv_at hl 1 rfl) ?_
        refine lv_iload_n hx hb dX9_isInBox_8 rfl (lv_at hl 2 rfl) ?_
        refine gz_i0 (va_runS (As := [.int x1, .int x2]) (rest := []) ⟨hx, hb, hml, hown, hts⟩ (c_X3_valueOf l dC dI cI cJ cC cZ H.size x1 x2 _ hf) (va_cwS 2 hts gX9_isInBox_X3_valueOf rfl rfl rfl (by decide +kernel) ⟨Nat.le_of_ble_eq_true rfl, Nat.le_of_ble_eq_true rfl⟩) ⟨gz_blind, gz_pre (gz_P_of hP (is := []) (wc := []) rfl) hK (hD.sub [] (by decide) rfl) gz_N0⟩ rfl rfl hl.1 rfl (lv_room (Nat.le_of_ble_eq_true rfl)) dX9_isInBox_9 ⟨Nat.le_refl _, Nat.le_refl _⟩) hP hD hS hA (fun r1 H locs hf hP hS => ?_)
        refine lv_aload_n hx hb dX9_isInBox_12 rfl (lv_at hl 0 rfl) ?_
        refine va_get (D := (dC, dI)) (ci := 6) (v := .int t_most) (C := RX9) (T := TX9) (N := 5) hx hb hts hinX9 hown hK hP 0 rfl rfl 2 (by decide) q0 (fun _ h9 => h9) rfl dX9_isInBox_13 ?_
        refine lv_icmp_le (tgt := 21) hx hb dX9_isInBox_16 (by decide) (fun hc2 => ?_) (fun hc2 => ?_)
        · have hf := hf.1 hc2
          refine lv_iinc (v := (x2 + (1 : Int32))) (lv' := [(2, .int (x2 + (1 : Int32))), (0, .ref h_t), (1, .int x1)]) hx hb dX9_isInBox_21 hl (k := 2) rfl rfl (by decide) rfl (fun ls hl => ?_)
          refine lv_goto (tgt := 2) hx hb dX9_isInBox_24 (by decide) ?_
          exact ih2 (x2 + (1 : Int32)) _ _ _ hf hP hD hS (lv_sub hl [1, 2, 0] rfl)
        · have hf := hf.2 hc2
          refine lv_iconst (v := (0 : Int32)) hx hb dX9_isInBox_19 (by decide) ?_
          exact ret _ _ _ _ (0 : Int32) () rfl hf hP hD hS dX9_isInBox_20
  have hf := hw
  refine lv_iconst (v := (0 : Int32)) hx hb dX9_isInBox_0 (by decide) ?_
  refine lv_istore_n (lv' := [(2, .int (0 : Int32)), (0, .ref h_t), (1, .int x1)]) hx hb dX9_isInBox_1 rfl hl (by decide) rfl (fun ls hl => ?_)
  obtain ⟨n, hf⟩ := hf
  exact L2  n (0 : Int32) _ _ _ hf hP hD hS (lv_sub hl [1, 2, 0] rfl)
abbrev rm_X9_sumAt : Room := { frames := 1, cells := 0, slots := 0, locals := 21 }
set_option maxHeartbeats 4000000 in
set_option maxRecDepth 100000 in
theorem c_X9_sumAt (l : Launch) (dC : Nat → ClassId) (dI : Nat → Nat → Nat) (cI cJ cC cZ : ClassId) (h_t h_t_cells : Nat) (sz : Nat) (t_size : Int32) (t_most : Int32) (t_draw : Int32) (t_changes : Int32) (t_cells : Nat → Int32) (x1 : Int32) (x2 : Int32) (Q : Int32 → Prop) (hw : p_X9_sumAt t_cells x1 x2 Q) : Met l yX9_sumAt wsX9_sumAt rm_X9_sumAt (va_Pc [.ref h_t, .int x1, .int x2] (gz_B (dC, dI) (gz_T cI cJ cC cZ) [] sz [(h_t, .inr (6, [.ref h_t_cells, .int t_size, .int t_most, .int t_draw, .int t_changes])), (h_t_cells, .inl (cI, 48, .inl t_cells))])) (va_Qi (fun (r : Int32) (u : Unit) => Q r) (fun u t => gz_E (dC, dI) (gz_T cI cJ cC cZ) (va_A [(h_t, .inr (6, [.ref h_t_cells, .int t_size, .int t_most, .int t_draw, .int t_changes])), (h_t_cells, .inl (cI, 48, .inl t_cells))] sz) [(h_t, .inr (6, [.ref h_t_cells, .int t_size, .int t_most, .int t_draw, .int t_changes])), (h_t_cells, .inl (cI, 48, .inl t_cells))] t) (va_A [(h_t, .inr (6, [.ref h_t_cells, .int t_size, .int t_most, .int t_draw, .int t_changes])), (h_t_cells, .inl (cI, 48, .inl t_cells))] sz)) 0 0 (va_A [(h_t, .inr (6, [.ref h_t_cells, .int t_size, .int t_most, .int t_draw, .int t_changes])), (h_t_cells, .inl (cI, 48, .inl t_cells))] sz) := by
  refine gz_mi (cc := cX9_sumAt) (maxL := 4) (plainFor_of_name (by decide +kernel)) rfl (Nat.le_of_ble_eq_true rfl) ?_
  intro p e s m below meth c A QQ ls hx hb hml hown0 hts hK hN hA hP hD hS hl ret
  have hown : s.vm.findClass RX9 = some m.cls := hown0
  have hl : lv_has ls 4 [(0, .ref h_t), (1, .int x1), (2, .int x2)] := hl
  have q0 := hts (.fieldLink RX9 11 "DarkShadows$Told" "cells" "[I") (List.mem_cons_of_mem _ (List.mem_append_left _ (List.mem_of_getElem? (i := 0) rfl)))
  have hinX9 : ∀ w ∈ wsX90, w ∈ wsX9_sumAt := fun w h => List.mem_cons_of_mem _ (List.mem_append_right _ h)
  have hf := hw
  refine lv_iload_n hx hb dX9_sumAt_0 rfl (lv_at hl 1 rfl) ?_
  refine lv_bipush (v := (6 : Int32)) hx hb dX9_sumAt_1 (by decide) ?_
  refine lv_imul hx hb dX9_sumAt_3 ?_
  refine lv_istore_n (lv' := [(3, .int (x1 * (6 : Int32))), (0, .ref h_t), (1, .int x1), (2, .int x2)]) hx hb dX9_sumAt_4 rfl hl (by decide) rfl (fun ls hl => ?_)
  refine lv_aload_n hx hb dX9_sumAt_5 rfl (lv_at hl 1 rfl) ?_
  refine va_get (D := (dC, dI)) (ci := 6) (v := .ref h_t_cells) (C := RX9) (T := TX9) (N := 5) hx hb hts hinX9 hown hK hP 0 rfl rfl 0 (by decide) q0 (fun _ h9 => h9) rfl dX9_sumAt_6 ?_
  refine lv_iload_n hx hb dX9_sumAt_9 rfl (lv_at hl 0 rfl) ?_
  obtain ⟨hb1, hf⟩ := hf
  refine va_iald hx hb hK hP 1 0 rfl rfl hb1 dX9_sumAt_10 ?_
  refine lv_iload_n hx hb dX9_sumAt_11 rfl (lv_at hl 3 rfl) ?_
  refine lv_iconst (v := (0 : Int32)) hx hb dX9_sumAt_12 (by decide) ?_
  refine gz_i0 (va_runS (As := [.int x2, .int (0 : Int32)]) (rest := [.int (t_cells (x1 * (6 : Int32)).toNatClampNeg)]) ⟨hx, hb, hml, hown, hts⟩ (c_X3_valueOf l dC dI cI cJ cC cZ s.heap.size x2 (0 : Int32) _ hf) (va_cwS 2 hts gX9_sumAt_X3_valueOf rfl rfl rfl (by decide +kernel) ⟨Nat.le_of_ble_eq_true rfl, Nat.le_of_ble_eq_true rfl⟩) ⟨gz_blind, gz_pre (gz_P_of hP (is := []) (wc := []) rfl) hK (hD.sub [] (by decide) rfl) gz_N0⟩ rfl rfl hl.1 rfl (lv_room (Nat.le_of_ble_eq_true rfl)) dX9_sumAt_13 ⟨Nat.le_refl _, Nat.le_refl _⟩) hP hD hS hA (fun r2 H locs hf hP hS => ?_)
  refine lv_imul hx hb dX9_sumAt_16 ?_
  refine lv_aload_n hx hb dX9_sumAt_17 rfl (lv_at hl 1 rfl) ?_
  refine va_get (D := (dC, dI)) (ci := 6) (v := .ref h_t_cells) (C := RX9) (T := TX9) (N := 5) hx hb hts hinX9 hown hK hP 0 rfl rfl 0 (by decide) q0 (fun _ h9 => h9) rfl dX9_sumAt_18 ?_
  refine lv_iload_n hx hb dX9_sumAt_21 rfl (lv_at hl 0 rfl) ?_
  refine lv_iconst (v := (1 : Int32)) hx hb dX9_sumAt_22 (by decide) ?_
  refine lv_iadd hx hb dX9_sumAt_23 ?_
  obtain ⟨hb3, hf⟩ := hf
  refine va_iald hx hb hK hP 1 0 rfl rfl hb3 dX9_sumAt_24 ?_
  refine lv_iload_n hx hb dX9_sumAt_25 rfl (lv_at hl 3 rfl) ?_
  refine lv_iconst (v := (1 : Int32)) hx hb dX9_sumAt_26 (by decide) ?_
  refine gz_i0 (va_runS (As := [.int x2, .int (1 : Int32)]) (rest := [.int (t_cells ((x1 * (6 : Int32)) + (1 : Int32)).toNatClampNeg), .int ((t_cells (x1 * (6 : Int32)).toNatClampNeg) * r2)]) ⟨hx, hb, hml, hown, hts⟩ (c_X3_valueOf l dC dI cI cJ cC cZ H.size x2 (1 : Int32) _ hf) (va_cwS 2 hts gX9_sumAt_X3_valueOf rfl rfl rfl (by decide +kernel) ⟨Nat.le_of_ble_eq_true rfl, Nat.le_of_ble_eq_true rfl⟩) ⟨gz_blind, gz_pre (gz_P_of hP (is := []) (wc := []) rfl) hK (hD.sub [] (by decide) rfl) gz_N0⟩ rfl rfl hl.1 rfl (lv_room (Nat.le_of_ble_eq_true rfl)) dX9_sumAt_27 ⟨Nat.le_refl _, Nat.le_refl _⟩) hP hD hS hA (fun r4 H locs hf hP hS => ?_)
  refine lv_imul hx hb dX9_sumAt_30 ?_
  refine lv_iadd hx hb dX9_sumAt_31 ?_
  refine lv_aload_n hx hb dX9_sumAt_32 rfl (lv_at hl 1 rfl) ?_
  refine va_get (D := (dC, dI)) (ci := 6) (v := .ref h_t_cells) (C := RX9) (T := TX9) (N := 5) hx hb hts hinX9 hown hK hP 0 rfl rfl 0 (by decide) q0 (fun _ h9 => h9) rfl dX9_sumAt_33 ?_
  refine lv_iload_n hx hb dX9_sumAt_36 rfl (lv_at hl 0 rfl) ?_
  refine lv_iconst (v := (2 : Int32)) hx hb dX9_sumAt_37 (by decide) ?_
  refine lv_iadd hx hb dX9_sumAt_38 ?_
  obtain ⟨hb5, hf⟩ := hf
  refine va_iald hx hb hK hP 1 0 rfl rfl hb5 dX9_sumAt_39 ?_
  refine lv_iload_n hx hb dX9_sumAt_40 rfl (lv_at hl 3 rfl) ?_
  refine lv_iconst (v := (2 : Int32)) hx hb dX9_sumAt_41 (by decide) ?_
  refine gz_i0 (va_runS (As := [.int x2, .int (2 : Int32)]) (rest := [.int (t_cells ((x1 * (6 : Int32)) + (2 : Int32)).toNatClampNeg), .int (((t_cells (x1 * (6 : Int32)).toNatClampNeg) * r2) + ((t_cells ((x1 * (6 : Int32)) + (1 : Int32)).toNatClampNeg) * r4))]) ⟨hx, hb, hml, hown, hts⟩ (c_X3_valueOf l dC dI cI cJ cC cZ H.size x2 (2 : Int32) _ hf) (va_cwS 2 hts gX9_sumAt_X3_valueOf rfl rfl rfl (by decide +kernel) ⟨Nat.le_of_ble_eq_true rfl, Nat.le_of_ble_eq_true rfl⟩) ⟨gz_blind, gz_pre (gz_P_of hP (is := []) (wc := []) rfl) hK (hD.sub [] (by decide) rfl) gz_N0⟩ rfl rfl hl.1 rfl (lv_room (Nat.le_of_ble_eq_true rfl)) dX9_sumAt_42 ⟨Nat.le_refl _, Nat.le_refl _⟩) hP hD hS hA (fun r6 H locs hf hP hS => ?_)
  refine lv_imul hx hb dX9_sumAt_45 ?_
  refine lv_iadd hx hb dX9_sumAt_46 ?_
  refine lv_aload_n hx hb dX9_sumAt_47 rfl (lv_at hl 1 rfl) ?_
  refine va_get (D := (dC, dI)) (ci := 6) (v := .ref h_t_cells) (C := RX9) (T := TX9) (N := 5) hx hb hts hinX9 hown hK hP 0 rfl rfl 0 (by decide) q0 (fun _ h9 => h9) rfl dX9_sumAt_48 ?_
  refine lv_iload_n hx hb dX9_sumAt_51 rfl (lv_at hl 0 rfl) ?_
  refine lv_iconst (v := (3 : Int32)) hx hb dX9_sumAt_52 (by decide) ?_
  refine lv_iadd hx hb dX9_sumAt_53 ?_
  obtain ⟨hb7, hf⟩ := hf
  refine va_iald hx hb hK hP 1 0 rfl rfl hb7 dX9_sumAt_54 ?_
  refine lv_iload_n hx hb dX9_sumAt_55 rfl (lv_at hl 3 rfl) ?_
  refine lv_iconst (v := (3 : Int32)) hx hb dX9_sumAt_56 (by decide) ?_
  refine gz_i0 (va_runS (As := [.int x2, .int (3 : Int32)]) (rest := [.int (t_cells ((x1 * (6 : Int32)) + (3 : Int32)).toNatClampNeg), .int ((((t_cells (x1 * (6 : Int32)).toNatClampNeg) * r2) + ((t_cells ((x1 * (6 : Int32)) + (1 : Int32)).toNatClampNeg) * r4)) + ((t_cells ((x1 * (6 : Int32)) + (2 : Int32)).toNatClampNeg) * r6))]) ⟨hx, hb, hml, hown, hts⟩ (c_X3_valueOf l dC dI cI cJ cC cZ H.size x2 (3 : Int32) _ hf) (va_cwS 2 hts gX9_sumAt_X3_valueOf rfl rfl rfl (by decide +kernel) ⟨Nat.le_of_ble_eq_true rfl, Nat.le_of_ble_eq_true rfl⟩) ⟨gz_blind, gz_pre (gz_P_of hP (is := []) (wc := []) rfl) hK (hD.sub [] (by decide) rfl) gz_N0⟩ rfl rfl hl.1 rfl (lv_room (Nat.le_of_ble_eq_true rfl)) dX9_sumAt_57 ⟨Nat.le_refl _, Nat.le_refl _⟩) hP hD hS hA (fun r8 H locs hf hP hS => ?_)
  refine lv_imul hx hb dX9_sumAt_60 ?_
  refine lv_iadd hx hb dX9_sumAt_61 ?_
  refine lv_aload_n hx hb dX9_sumAt_62 rfl (lv_at hl 1 rfl) ?_
  refine va_get (D := (dC, dI)) (ci := 6) (v := .ref h_t_cells) (C := RX9) (T := TX9) (N := 5) hx hb hts hinX9 hown hK hP 0 rfl rfl 0 (by decide) q0 (fun _ h9 => h9) rfl dX9_sumAt_63 ?_
  refine lv_iload_n hx hb dX9_sumAt_66 rfl (lv_at hl 0 rfl) ?_
  refine lv_iconst (v := (4 : Int32)) hx hb dX9_sumAt_67 (by decide) ?_
  refine lv_iadd hx hb dX9_sumAt_68 ?_
  obtain ⟨hb9, hf⟩ := hf
  refine va_iald hx hb hK hP 1 0 rfl rfl hb9 dX9_sumAt_69 ?_
  refine lv_iadd hx hb dX9_sumAt_70 ?_
  exact ret _ _ _ _ ((((((t_cells (x1 * (6 : Int32)).toNatClampNeg) * r2) + ((t_cells ((x1 * (6 : Int32)) + (1 : Int32)).toNatClampNeg) * r4)) + ((t_cells ((x1 * (6 : Int32)) + (2 : Int32)).toNatClampNeg) * r6)) + ((t_cells ((x1 * (6 : Int32)) + (3 : Int32)).toNatClampNeg) * r8)) + (t_cells ((x1 * (6 : Int32)) + (4 : Int32)).toNatClampNeg)) () hf hP hD hS dX9_sumAt_71
abbrev rm_X5_noteLine : Room := { frames := 2, cells := 0, slots := 0, locals := 44 }
set_option maxHeartbeats 4000000 in
set_option maxRecDepth 100000 in
theorem c_X5_noteLine (l : Launch) (dC : Nat → ClassId) (dI : Nat → Nat → Nat) (cI cJ cC cZ : ClassId) (h_t h_t_tally h_t_holding h_t_isHeld h_a1 h_a1_cells : Nat) (sz : Nat) (t_seenChanges : Int32) (t_holding : Nat → Int32) (a1_size : Int32) (a1_most : Int32) (a1_draw : Int32) (a1_changes : Int32) (a1_cells : Nat → Int32) (x2 : Int32) (x3 : Int32) (x4 : Int32) (Q : (Nat → Int32) → Prop) (hw : p_X5_noteLine t_holding a1_cells x2 x3 x4 Q) : Met l yX5_noteLine wsX5_noteLine rm_X5_noteLine (va_Pc [.ref h_t, .ref h_a1, .int x2, .int x3, .int x4] (gz_B (dC, dI) (gz_T cI cJ cC cZ) [] sz [(h_t, .inr (2, [.ref h_t_tally, .ref h_t_holding, .ref h_t_isHeld, .int t_seenChanges])), (h_t_holding, .inl (cI, 4096, .inl t_holding)), (h_a1, .inr (6, [.ref h_a1_cells, .int a1_size, .int a1_most, .int a1_draw, .int a1_changes])), (h_a1_cells, .inl (cI, 48, .inl a1_cells))])) (va_Qv (fun (u : (Nat → Int32)) => Q u) (fun u t => gz_E (dC, dI) (gz_T cI cJ cC cZ) (va_A [(h_t, .inr (2, [.ref h_t_tally, .ref h_t_holding, .ref h_t_isHeld, .int t_seenChanges])), (h_t_holding, .inl (cI, 4096, .inl t_holding)), (h_a1, .inr (6, [.ref h_a1_cells, .int a1_size, .int a1_most, .int a1_draw, .int a1_changes])), (h_a1_cells, .inl (cI, 48, .inl a1_cells))] sz) [(h_t, .inr (2, [.ref h_t_tally, .ref h_t_holding, .ref h_t_isHeld, .int t_seenChanges])), (h_t_holding, .inl (cI, 4096, .inl u)), (h_a1, .inr (6, [.ref h_a1_cells, .int a1_size, .int a1_most, .int a1_draw, .int a1_changes])), (h_a1_cells, .inl (cI, 48, .inl a1_cells))] t) (va_A [(h_t, .inr (2, [.ref h_t_tally, .ref h_t_holding, .ref h_t_isHeld, .int t_seenChanges])), (h_t_holding, .inl (cI, 4096, .inl t_holding)), (h_a1, .inr (6, [.ref h_a1_cells, .int a1_size, .int a1_most, .int a1_draw, .int a1_changes])), (h_a1_cells, .inl (cI, 48, .inl a1_cells))] sz)) 0 0 (va_A [(h_t, .inr (2, [.ref h_t_tally, .ref h_t_holding, .ref h_t_isHeld, .int t_seenChanges])), (h_t_holding, .inl (cI, 4096, .inl t_holding)), (h_a1, .inr (6, [.ref h_a1_cells, .int a1_size, .int a1_most, .int a1_draw, .int a1_changes])), (h_a1_cells, .inl (cI, 48, .inl a1_cells))] sz) := by
  refine gz_mv (cc := cX5_noteLine) (maxL := 9) (plainFor_of_name (by decide +kernel)) rfl (Nat.le_of_ble_eq_true rfl) ?_
  intro p e s m below meth c A QQ ls hx hb hml hown0 hts hK hN hA hP hD hS hl ret
  have hown : s.vm.findClass RX5 = some m.cls := hown0
  have hl : lv_has ls 9 [(0, .ref h_t), (1, .ref h_a1), (2, .int x2), (3, .int x3), (4, .int x4)] := hl
  have q0 := hts (.fieldLink RX5 15 "DarkShadows$Search" "holding" "[I") (List.mem_cons_of_mem _ (List.mem_append_left _ (List.mem_append_left _ (List.mem_of_getElem? (i := 0) rfl))))
  have hinX5 : ∀ w ∈ wsX50, w ∈ wsX5_noteLine := fun w h => List.mem_cons_of_mem _ (List.mem_append_left _ (List.mem_append_right _ h))
  have L27 : ∀ (x5 : Int32) (x6 : Int32) (n : Nat) (x7 : Int32) (x8 : Int32) (t_holding : Nat → Int32) (H : Heap) (locs : List Loc) (ls : Array Slot), gi3 (p_X5_noteLine_27 x2 x4 x5 x6 Q) n x7 x8 t_holding → va_P (dC, dI) vwCl [(h_t, .inr (2, [.ref h_t_tally, .ref h_t_holding, .ref h_t_isHeld, .int t_seenChanges])), (h_t_holding, .inl (cI, 4096, .inl t_holding)), (h_a1, .inr (6, [.ref h_a1_cells, .int a1_size, .int a1_most, .int a1_draw, .int a1_changes])), (h_a1_cells, .inl (cI, 48, .inl a1_cells))] H → va_D A [(h_t, .inr (2, [.ref h_t_tally, .ref h_t_holding, .ref h_t_isHeld, .int t_seenChanges])), (h_t_holding, .inl (cI, 4096, .inl t_holding)), (h_a1, .inr (6, [.ref h_a1_cells, .int a1_size, .int a1_most, .int a1_draw, .int a1_changes])), (h_a1_cells, .inl (cI, 48, .inl a1_cells))] → va_S A s.heap H locs → lv_has ls 9 [(0, .ref h_t), (2, .int x2), (4, .int x4), (5, .int x5), (6, .int x6), (7, .int x7), (8, .int x8)] → W p l e rm_X5_noteLine s m [.ref h_t, .ref h_a1, .int x2, .int x3, .int x4].toArray below meth c H locs 0 0 QQ (F0 m 27 ls []) := by
    intro x5 x6 n
    induction n with
    | zero => intro x7 x8 t_holding H locs ls hf; exact False.elim hf
    | succ n ih27 =>
      generalize hK27 : gi3 (p_X5_noteLine_27 x2 x4 x5 x6 Q) n = K27 at ih27
      have L57 : ∀ (x7 : Int32) (x8 : Int32) (t_holding : Nat → Int32) (H : Heap) (locs : List Loc) (ls : Array Slot), p_X5_noteLine_57 t_holding x6 x7 x8 K27 → va_P (dC, dI) vwCl [(h_t, .inr (2, [.ref h_t_tally, .ref h_t_holding, .ref h_t_isHeld, .int t_seenChanges])), (h_t_holding, .inl (cI, 4096, .inl t_holding)), (h_a1, .inr (6, [.ref h_a1_cells, .int a1_size, .int a1_most, .int a1_draw, .int a1_changes])), (h_a1_cells, .inl (cI, 48, .inl a1_cells))] H → va_D A [(h_t, .inr (2, [.ref h_t_tally, .ref h_t_holding, .ref h_t_isHeld, .int t_seenChanges])), (h_t_holding, .inl (cI, 4096, .inl t_holding)), (h_a1, .inr (6, [.ref h_a1_cells, .int a1_size, .int a1_most, .int a1_draw, .int a1_changes])), (h_a1_cells, .inl (cI, 48, .inl a1_cells))] → va_S A s.heap H locs → lv_has ls 9 [(0, .ref h_t), (2, .int x2), (4, .int x4), (5, .int x5), (6, .int x6), (7, .int x7), (8, .int x8)] → W p l e rm_X5_noteLine s m [.ref h_t, .ref h_a1, .int x2, .int x3, .int x4].toArray below meth c H locs 0 0 QQ (F0 m 57 ls []) := by
        intro x7 x8 t_holding H locs ls hf hP hD hS hl
        refine lv_iload hx hb dX5_noteLine_57 (lv_at hl 5 rfl) ?_
        refine lv_iload hx hb dX5_noteLine_59 (lv_at hl 4 rfl) ?_
        refine lv_iadd hx hb dX5_noteLine_61 ?_
        refine lv_istore (lv' := [(7, .int (x7 + x6)), (0, .ref h_t), (2, .int x2), (4, .int x4), (5, .int x5), (6, .int x6), (8, .int x8)]) hx hb dX5_noteLine_62 hl (by decide) rfl (fun ls hl => ?_)
        refine lv_iinc (v := (x8 + (1 : Int32))) (lv' := [(8, .int (x8 + (1 : Int32))), (7, .int (x7 + x6)), (0, .ref h_t), (2, .int x2), (4, .int x4), (5, .int x5), (6, .int x6)]) hx hb dX5_noteLine_64 hl (k := 6) rfl rfl (by decide) rfl (fun ls hl => ?_)
        refine lv_goto (tgt := 27) hx hb dX5_noteLine_67 (by decide) ?_
        exact ih27 (x7 + x6) (x8 + (1 : Int32)) t_holding _ _ _ hf hP hD hS (lv_sub hl [2, 3, 4, 5, 6, 1, 0] rfl)
      intro x7 x8 t_holding H locs ls hf hP hD hS hl
      have hf : p_X5_noteLine_27 x2 x4 x5 x6 Q (gi3 (p_X5_noteLine_27 x2 x4 x5 x6 Q) n) x7 x8 t_holding := hf
      rw [hK27] at hf
      refine lv_iload hx hb dX5_noteLine_27 (lv_at hl 6 rfl) ?_
      refine lv_iload hx hb dX5_noteLine_29 (lv_at hl 2 rfl) ?_
      refine lv_icmp_gt (tgt := 70) hx hb dX5_noteLine_31 (by decide) (fun hc8 => ?_) (fun hc8 => ?_)
      · have hf := hf.1 hc8
        exact ret _ _ _ _ t_holding hf hP hD hS dX5_noteLine_70
      · have hf := hf.2 hc8
        refine lv_iload hx hb dX5_noteLine_34 (lv_at hl 3 rfl) ?_
        refine lv_iload hx hb dX5_noteLine_36 (lv_at hl 5 rfl) ?_
        refine gz_i0 (va_runS (As := [.int x5, .int x7]) (rest := []) ⟨hx, hb, hml, hown, hts⟩ (c_X1_holds l dC dI cI cJ cC cZ H.size x5 x7 _ hf) (va_cwS 2 hts gX5_noteLine_X1_holds rfl rfl rfl (by decide +kernel) ⟨Nat.le_of_ble_eq_true rfl, Nat.le_of_ble_eq_true rfl⟩) ⟨gz_blind, gz_pre (gz_P_of hP (is := []) (wc := []) rfl) hK (hD.sub [] (by decide) rfl) gz_N0⟩ rfl rfl hl.1 rfl (lv_room (Nat.le_of_ble_eq_true rfl)) dX5_noteLine_38 ⟨Nat.le_refl _, Nat.le_refl _⟩) hP hD hS hA (fun r4 H locs hf hP hS => ?_)
        refine lv_if_eq (tgt := 57) hx hb dX5_noteLine_41 (by decide) (fun hc7 => ?_) (fun hc7 => ?_)
        · have hf := hf.1 hc7
          exact L57 x7 x8 t_holding _ _ _ hf hP hD hS hl
        · have hf := hf.2 hc7
          refine lv_aload_n hx hb dX5_noteLine_44 rfl (lv_at hl 0 rfl) ?_
          refine va_get (D := (dC, dI)) (ci := 2) (v := .ref h_t_holding) (C := RX5) (T := TX5) (N := 4) hx hb hts hinX5 hown hK hP 0 rfl rfl 1 (by decide) q0 (fun _ h9 => h9) rfl dX5_noteLine_45 ?_
          refine lv_iload hx hb dX5_noteLine_48 (lv_at hl 6 rfl) ?_
          refine lv_dup2_11 hx hb dX5_noteLine_50 rfl rfl ?_
          obtain ⟨hb5, hf⟩ := hf
          refine va_iald hx hb hK hP 1 0 rfl rfl hb5 dX5_noteLine_51 ?_
          refine lv_iconst (v := (1 : Int32)) hx hb dX5_noteLine_52 (by decide) ?_
          refine lv_iload_n hx hb dX5_noteLine_53 rfl (lv_at hl 1 rfl) ?_
          refine lv_ishl hx hb dX5_noteLine_54 ?_
          refine lv_ior hx hb dX5_noteLine_55 ?_
          obtain ⟨hb6, hf⟩ := hf
          refine va_iast hx hb hK hP hD hS 1 0 rfl rfl hb6 dX5_noteLine_56 (fun H locs hP hD hS => ?_)
          have hP : va_P (dC, dI) vwCl [(h_t, .inr (2, [.ref h_t_tally, .ref h_t_holding, .ref h_t_isHeld, .int t_seenChanges])), (h_t_holding, .inl (cI, 4096, .inl (upd t_holding x8.toNatClampNeg ((t_holding x8.toNatClampNeg) ||| ((1 : Int32) <<< (x2 &&& 31)))))), (h_a1, .inr (6, [.ref h_a1_cells, .int a1_size, .int a1_most, .int a1_draw, .int a1_changes])), (h_a1_cells, .inl (cI, 48, .inl a1_cells))] H := hP
          have hD : va_D A [(h_t, .inr (2, [.ref h_t_tally, .ref h_t_holding, .ref h_t_isHeld, .int t_seenChanges])), (h_t_holding, .inl (cI, 4096, .inl (upd t_holding x8.toNatClampNeg ((t_holding x8.toNatClampNeg) ||| ((1 : Int32) <<< (x2 &&& 31)))))), (h_a1, .inr (6, [.ref h_a1_cells, .int a1_size, .int a1_most, .int a1_draw, .int a1_changes])), (h_a1_cells, .inl (cI, 48, .inl a1_cells))] := hD
          exact L57 x7 x8 (upd t_holding x8.toNatClampNeg ((t_holding x8.toNatClampNeg) ||| ((1 : Int32) <<< (x2 &&& 31)))) _ _ _ hf hP hD hS hl
  have hf := hw
  refine lv_aload_n hx hb dX5_noteLine_0 rfl (lv_at hl 1 rfl) ?_
  refine lv_iload_n hx hb dX5_noteLine_1 rfl (lv_at hl 2 rfl) ?_
  refine lv_iconst (v := (5 : Int32)) hx hb dX5_noteLine_2 (by decide) ?_
  refine gz_iR (va_runV (As := [.int x2, .int (5 : Int32)]) (rest := []) ⟨hx, hb, hml, hown, hts⟩ (c_X9_cell l dC dI cI cJ cC cZ h_a1 h_a1_cells s.heap.size a1_size a1_most a1_draw a1_changes a1_cells x2 (5 : Int32) _ hf) (cwV 2 hts gX5_noteLine_X9_cell rfl rfl rfl (by decide +kernel) ⟨Nat.le_of_ble_eq_true rfl, Nat.le_of_ble_eq_true rfl⟩) ⟨gz_blind, va_recv hK hP (ci := 6) (q0 := 2) rfl rfl, gz_pre (gz_P_of hP (is := [2, 3]) (wc := [(h_a1, .inr (6, [.ref h_a1_cells, .int a1_size, .int a1_most, .int a1_draw, .int a1_changes])), (h_a1_cells, .inl (cI, 48, .inl a1_cells))]) rfl) hK (hD.sub [2, 3] (by decide) rfl) gz_N0⟩ rfl rfl hl.1 rfl (lv_room (Nat.le_of_ble_eq_true rfl)) dX5_noteLine_3 ⟨Nat.le_refl _, Nat.le_refl _⟩) hP hD hS hA [2, 3] rfl (fun r1 H locs hf hP hS => ?_)
  refine lv_istore (lv' := [(5, .int r1), (0, .ref h_t), (1, .ref h_a1), (2, .int x2), (3, .int x3), (4, .int x4)]) hx hb dX5_noteLine_6 hl (by decide) rfl (fun ls hl => ?_)
  refine lv_aload_n hx hb dX5_noteLine_8 rfl (lv_at hl 2 rfl) ?_
  refine lv_iload_n hx hb dX5_noteLine_9 rfl (lv_at hl 3 rfl) ?_
  refine lv_iconst (v := (3 : Int32)) hx hb dX5_noteLine_10 (by decide) ?_
  refine gz_iR (va_runV (As := [.int x2, .int (3 : Int32)]) (rest := []) ⟨hx, hb, hml, hown, hts⟩ (c_X9_cell l dC dI cI cJ cC cZ h_a1 h_a1_cells H.size a1_size a1_most a1_draw a1_changes a1_cells x2 (3 : Int32) _ hf) (cwV 2 hts gX5_noteLine_X9_cell rfl rfl rfl (by decide +kernel) ⟨Nat.le_of_ble_eq_true rfl, Nat.le_of_ble_eq_true rfl⟩) ⟨gz_blind, va_recv hK hP (ci := 6) (q0 := 2) rfl rfl, gz_pre (gz_P_of hP (is := [2, 3]) (wc := [(h_a1, .inr (6, [.ref h_a1_cells, .int a1_size, .int a1_most, .int a1_draw, .int a1_changes])), (h_a1_cells, .inl (cI, 48, .inl a1_cells))]) rfl) hK (hD.sub [2, 3] (by decide) rfl) gz_N0⟩ rfl rfl hl.1 rfl (lv_room (Nat.le_of_ble_eq_true rfl)) dX5_noteLine_11 ⟨Nat.le_refl _, Nat.le_refl _⟩) hP hD hS hA [2, 3] rfl (fun r2 H locs hf hP hS => ?_)
  refine lv_istore (lv' := [(6, .int r2), (5, .int r1), (0, .ref h_t), (1, .ref h_a1), (2, .int x2), (3, .int x3), (4, .int x4)]) hx hb dX5_noteLine_14 hl (by decide) rfl (fun ls hl => ?_)
  refine lv_aload_n hx hb dX5_noteLine_16 rfl (lv_at hl 3 rfl) ?_
  refine lv_iload_n hx hb dX5_noteLine_17 rfl (lv_at hl 4 rfl) ?_
  refine lv_iload_n hx hb dX5_noteLine_18 rfl (lv_at hl 5 rfl) ?_
  refine gz_iR (va_runV (As := [.int x2, .int x3]) (rest := []) ⟨hx, hb, hml, hown, hts⟩ (c_X9_sumAt l dC dI cI cJ cC cZ h_a1 h_a1_cells H.size a1_size a1_most a1_draw a1_changes a1_cells x2 x3 _ hf) (cwV 2 hts gX5_noteLine_X9_sumAt rfl rfl rfl (by decide +kernel) ⟨Nat.le_of_ble_eq_true rfl, Nat.le_of_ble_eq_true rfl⟩) ⟨gz_blind, va_recv hK hP (ci := 6) (q0 := 2) rfl rfl, gz_pre (gz_P_of hP (is := [2, 3]) (wc := [(h_a1, .inr (6, [.ref h_a1_cells, .int a1_size, .int a1_most, .int a1_draw, .int a1_changes])), (h_a1_cells, .inl (cI, 48, .inl a1_cells))]) rfl) hK (hD.sub [2, 3] (by decide) rfl) gz_N0⟩ rfl rfl hl.1 rfl (lv_room (Nat.le_of_ble_eq_true rfl)) dX5_noteLine_19 ⟨Nat.le_refl _, Nat.le_refl _⟩) hP hD hS hA [2, 3] rfl (fun r3 H locs hf hP hS => ?_)
  refine lv_istore (lv' := [(7, .int r3), (6, .int r2), (5, .int r1), (0, .ref h_t), (1, .ref h_a1), (2, .int x2), (3, .int x3), (4, .int x4)]) hx hb dX5_noteLine_22 hl (by decide) rfl (fun ls hl => ?_)
  refine lv_iload_n hx hb dX5_noteLine_24 rfl (lv_at hl 6 rfl) ?_
  refine lv_istore (lv' := [(8, .int x3), (7, .int r3), (6, .int r2), (5, .int r1), (0, .ref h_t), (1, .ref h_a1), (2, .int x2), (3, .int x3), (4, .int x4)]) hx hb dX5_noteLine_25 hl (by decide) rfl (fun ls hl => ?_)
  obtain ⟨n, hf⟩ := hf
  exact L27 r1 r2 n r3 x3 t_holding _ _ _ hf hP hD hS (lv_sub hl [4, 6, 8, 3, 2, 1, 0] rfl)
abbrev rm_X5_lookAt : Room := { frames := 3, cells := 0, slots := 0, locals := 72 }
set_option maxHeartbeats 4000000 in
set_option maxRecDepth 100000 in
theorem c_X5_lookAt (l : Launch) (dC : Nat → ClassId) (dI : Nat → Nat → Nat) (cI cJ cC cZ : ClassId) (h_t h_t_tally h_t_holding h_t_isHeld h_a1 h_a1_cells : Nat) (sz : Nat) (t_seenChanges : Int32) (t_holding : Nat → Int32) (a1_size : Int32) (a1_most : Int32) (a1_draw : Int32) (a1_changes : Int32) (a1_cells : Nat → Int32) (Q : Int32 → (Nat → Int32) → Prop) (hw : p_X5_lookAt t_seenChanges t_holding a1_size a1_most a1_changes a1_cells Q) : Met l yX5_lookAt wsX5_lookAt rm_X5_lookAt (va_Pc [.ref h_t, .ref h_a1] (gz_B (dC, dI) (gz_T cI cJ cC cZ) [] sz [(h_t, .inr (2, [.ref h_t_tally, .ref h_t_holding, .ref h_t_isHeld, .int t_seenChanges])), (h_t_holding, .inl (cI, 4096, .inl t_holding)), (h_a1, .inr (6, [.ref h_a1_cells, .int a1_size, .int a1_most, .int a1_draw, .int a1_changes])), (h_a1_cells, .inl (cI, 48, .inl a1_cells))])) (va_Qv (fun (u : Int32 × (Nat → Int32)) => Q u.1 u.2) (fun u t => gz_E (dC, dI) (gz_T cI cJ cC cZ) (va_A [(h_t, .inr (2, [.ref h_t_tally, .ref h_t_holding, .ref h_t_isHeld, .int t_seenChanges])), (h_t_holding, .inl (cI, 4096, .inl t_holding)), (h_a1, .inr (6, [.ref h_a1_cells, .int a1_size, .int a1_most, .int a1_draw, .int a1_changes])), (h_a1_cells, .inl (cI, 48, .inl a1_cells))] sz) [(h_t, .inr (2, [.ref h_t_tally, .ref h_t_holding, .ref h_t_isHeld, .int u.1])), (h_t_holding, .inl (cI, 4096, .inl u.2)), (h_a1, .inr (6, [.ref h_a1_cells, .int a1_size, .int a1_most, .int a1_draw, .int a1_changes])), (h_a1_cells, .inl (cI, 48, .inl a1_cells))] t) (va_A [(h_t, .inr (2, [.ref h_t_tally, .ref h_t_holding, .ref h_t_isHeld, .int t_seenChanges])), (h_t_holding, .inl (cI, 4096, .inl t_holding)), (h_a1, .inr (6, [.ref h_a1_cells, .int a1_size, .int a1_most, .int a1_draw, .int a1_changes])), (h_a1_cells, .inl (cI, 48, .inl a1_cells))] sz)) 0 0 (va_A [(h_t, .inr (2, [.ref h_t_tally, .ref h_t_holding, .ref h_t_isHeld, .int t_seenChanges])), (h_t_holding, .inl (cI, 4096, .inl t_holding)), (h_a1, .inr (6, [.ref h_a1_cells, .int a1_size, .int a1_most, .int a1_draw, .int a1_changes])), (h_a1_cells, .inl (cI, 48, .inl a1_cells))] sz) := by
  refine gz_mv (cc := cX5_lookAt) (maxL := 5) (plainFor_of_name (by decide +kernel)) rfl (Nat.le_of_ble_eq_true rfl) ?_
  intro p e s m below meth c A QQ ls hx hb hml hown0 hts hK hN hA hP hD hS hl ret
  have hown : s.vm.findClass RX5 = some m.cls := hown0
  have hl : lv_has ls 5 [(0, .ref h_t), (1, .ref h_a1)] := hl
  have q0 := hts (.fieldLink RX5 22 "DarkShadows$Search" "seenChanges" "I") (List.mem_cons_of_mem _ (List.mem_append_left _ (List.mem_append_left _ (List.mem_append_left _ (List.mem_of_getElem? (i := 0) rfl)))))
  have hinX5 : ∀ w ∈ wsX50, w ∈ wsX5_lookAt := fun w h => List.mem_cons_of_mem _ (List.mem_append_left _ (List.mem_append_right _ h))
  have q2 := hts (.fieldLink RX5 77 "DarkShadows$Told" "changes" "I") (List.mem_cons_of_mem _ (List.mem_append_left _ (List.mem_append_left _ (List.mem_append_left _ (List.mem_of_getElem? (i := 1) rfl)))))
  have hinX9 : ∀ w ∈ wsX90, w ∈ wsX5_lookAt := fun w h => List.mem_cons_of_mem _ (List.mem_append_right _ h)
  have q4 := hts (.fieldLink RX5 42 "DarkShadows$Told" "size" "I") (List.mem_cons_of_mem _ (List.mem_append_left _ (List.mem_append_left _ (List.mem_append_left _ (List.mem_of_getElem? (i := 4) rfl)))))
  have q5 := hts (.fieldLink RX5 15 "DarkShadows$Search" "holding" "[I") (List.mem_cons_of_mem _ (List.mem_append_left _ (List.mem_append_left _ (List.mem_append_left _ (List.mem_of_getElem? (i := 3) rfl)))))
  have q6 := hts (.fieldLink RX5 84 "DarkShadows$Told" "most" "I") (List.mem_cons_of_mem _ (List.mem_append_left _ (List.mem_append_left _ (List.mem_append_left _ (List.mem_of_getElem? (i := 2) rfl)))))
  have L14 : ∀ (t_seenChanges : Int32) (n : Nat) (x2 : Int32) (t_holding : Nat → Int32) (H : Heap) (locs : List Loc) (ls : Array Slot), gi2 (p_X5_lookAt_14 a1_size a1_most a1_changes a1_cells Q) n x2 t_holding → va_P (dC, dI) vwCl [(h_t, .inr (2, [.ref h_t_tally, .ref h_t_holding, .ref h_t_isHeld, .int t_seenChanges])), (h_t_holding, .inl (cI, 4096, .inl t_holding)), (h_a1, .inr (6, [.ref h_a1_cells, .int a1_size, .int a1_most, .int a1_draw, .int a1_changes])), (h_a1_cells, .inl (cI, 48, .inl a1_cells))] H → va_D A [(h_t, .inr (2, [.ref h_t_tally, .ref h_t_holding, .ref h_t_isHeld, .int t_seenChanges])), (h_t_holding, .inl (cI, 4096, .inl t_holding)), (h_a1, .inr (6, [.ref h_a1_cells, .int a1_size, .int a1_most, .int a1_draw, .int a1_changes])), (h_a1_cells, .inl (cI, 48, .inl a1_cells))] → va_S A s.heap H locs → lv_has ls 5 [(0, .ref h_t), (1, .ref h_a1), (2, .int x2)] → W p l e rm_X5_lookAt s m [.ref h_t, .ref h_a1].toArray below meth c H locs 0 0 QQ (F0 m 14 ls []) := by
    intro t_seenChanges n
    induction n with
    | zero => intro x2 t_holding H locs ls hf; exact False.elim hf
    | succ n ih14 =>
      generalize hK14 : gi2 (p_X5_lookAt_14 a1_size a1_most a1_changes a1_cells Q) n = K14 at ih14
      have L77 : ∀ (x2 : Int32) (x3 : Int32) (n : Nat) (x4 : Int32) (t_holding : Nat → Int32) (H : Heap) (locs : List Loc) (ls : Array Slot), gi2 (p_X5_lookAt_77 a1_size a1_cells x2 x3 K14) n x4 t_holding → va_P (dC, dI) vwCl [(h_t, .inr (2, [.ref h_t_tally, .ref h_t_holding, .ref h_t_isHeld, .int t_seenChanges])), (h_t_holding, .inl (cI, 4096, .inl t_holding)), (h_a1, .inr (6, [.ref h_a1_cells, .int a1_size, .int a1_most, .int a1_draw, .int a1_changes])), (h_a1_cells, .inl (cI, 48, .inl a1_cells))] H → va_D A [(h_t, .inr (2, [.ref h_t_tally, .ref h_t_holding, .ref h_t_isHeld, .int t_seenChanges])), (h_t_holding, .inl (cI, 4096, .inl t_holding)), (h_a1, .inr (6, [.ref h_a1_cells, .int a1_size, .int a1_most, .int a1_draw, .int a1_changes])), (h_a1_cells, .inl (cI, 48, .inl a1_cells))] → va_S A s.heap H locs → lv_has ls 5 [(0, .ref h_t), (1, .ref h_a1), (2, .int x2), (3, .int x3), (4, .int x4)] → W p l e rm_X5_lookAt s m [.ref h_t, .ref h_a1].toArray below meth c H locs 0 0 QQ (F0 m 77 ls []) := by
        intro x2 x3 n
        induction n with
        | zero => intro x4 t_holding H locs ls hf; exact False.elim hf
        | succ n ih77 =>
          generalize hK77 : gi2 (p_X5_lookAt_77 a1_size a1_cells x2 x3 K14) n = K77 at ih77
          intro x4 t_holding H locs ls hf hP hD hS hl
          have hf : p_X5_lookAt_77 a1_size a1_cells x2 x3 K14 (gi2 (p_X5_lookAt_77 a1_size a1_cells x2 x3 K14) n) x4 t_holding := hf
          rw [hK77] at hf
          refine lv_iload hx hb dX5_lookAt_77 (lv_at hl 4 rfl) ?_
          refine lv_aload_n hx hb dX5_lookAt_79 rfl (lv_at hl 1 rfl) ?_
          refine va_get (D := (dC, dI)) (ci := 6) (v := .int a1_size) (C := RX9) (T := TX9) (N := 5) hx hb hts hinX9 hown hK hP 2 rfl rfl 1 (by decide) q4 (fun _ h9 => h9) rfl dX5_lookAt_80 ?_
          refine lv_icmp_ge (tgt := 103) hx hb dX5_lookAt_83 (by decide) (fun hc3 => ?_) (fun hc3 => ?_)
          · have hf := hf.1 hc3
            refine lv_iinc (v := (x2 + (8 : Int32))) (lv' := [(2, .int (x2 + (8 : Int32))), (0, .ref h_t), (1, .ref h_a1), (3, .int x3), (4, .int x4)]) hx hb dX5_lookAt_103 hl (k := 2) rfl rfl (by decide) rfl (fun ls hl => ?_)
            refine lv_goto (tgt := 14) hx hb dX5_lookAt_106 (by decide) ?_
            exact ih14 (x2 + (8 : Int32)) t_holding _ _ _ hf hP hD hS (lv_sub hl [1, 2, 0] rfl)
          · have hf := hf.2 hc3
            refine lv_aload_n hx hb dX5_lookAt_86 rfl (lv_at hl 0 rfl) ?_
            refine lv_aload_n hx hb dX5_lookAt_87 rfl (lv_at hl 1 rfl) ?_
            refine lv_iload hx hb dX5_lookAt_88 (lv_at hl 4 rfl) ?_
            refine lv_iload_n hx hb dX5_lookAt_90 rfl (lv_at hl 2 rfl) ?_
            refine lv_iload_n hx hb dX5_lookAt_91 rfl (lv_at hl 2 rfl) ?_
            refine lv_iload_n hx hb dX5_lookAt_92 rfl (lv_at hl 3 rfl) ?_
            refine lv_iadd hx hb dX5_lookAt_93 ?_
            refine gz_v (W1 := (fun u : (Nat → Int32) => [(h_t, .inr (2, [.ref h_t_tally, .ref h_t_holding, .ref h_t_isHeld, .int t_seenChanges])), (h_t_holding, .inl (cI, 4096, .inl u)), (h_a1, .inr (6, [.ref h_a1_cells, .int a1_size, .int a1_most, .int a1_draw, .int a1_changes])), (h_a1_cells, .inl (cI, 48, .inl a1_cells))])) (wn := (fun u : (Nat → Int32) => [(h_t, .inr (2, [.ref h_t_tally, .ref h_t_holding, .ref h_t_isHeld, .int t_seenChanges])), (h_t_holding, .inl (cI, 4096, .inl u)), (h_a1, .inr (6, [.ref h_a1_cells, .int a1_size, .int a1_most, .int a1_draw, .int a1_changes])), (h_a1_cells, .inl (cI, 48, .inl a1_cells))])) (wr := []) (va_runV (As := [.ref h_a1, .int x4, .int x2, .int (x2 + x3)]) (rest := []) ⟨hx, hb, hml, hown, hts⟩ (c_X5_noteLine l dC dI cI cJ cC cZ h_t h_t_tally h_t_holding h_t_isHeld h_a1 h_a1_cells H.size t_seenChanges t_holding a1_size a1_most a1_draw a1_changes a1_cells x4 x2 (x2 + x3) _ hf) (cwV 4 hts gX5_lookAt_X5_noteLine rfl rfl rfl (by decide +kernel) ⟨Nat.le_of_ble_eq_true rfl, Nat.le_of_ble_eq_true rfl⟩) ⟨gz_blind, va_recv hK hP (ci := 2) (q0 := 0) rfl rfl, gz_pre (gz_P_of hP (is := [0, 1, 2, 3]) (wc := [(h_t, .inr (2, [.ref h_t_tally, .ref h_t_holding, .ref h_t_isHeld, .int t_seenChanges])), (h_t_holding, .inl (cI, 4096, .inl t_holding)), (h_a1, .inr (6, [.ref h_a1_cells, .int a1_size, .int a1_most, .int a1_draw, .int a1_changes])), (h_a1_cells, .inl (cI, 48, .inl a1_cells))]) rfl) hK (hD.sub [0, 1, 2, 3] (by decide) rfl) gz_N0⟩ rfl rfl hl.1 rfl (lv_room (Nat.le_of_ble_eq_true rfl)) dX5_lookAt_94 ⟨Nat.le_refl _, Nat.le_refl _⟩) hP hD hS hA [0, 1, 2, 3] [] [0, 1, 2, 3] rfl rfl (by decide) (by decide) (fun _ => rfl) (by decide) (fun  y2 H locs hf hP hD hS => ?_)
            have hP : va_P (dC, dI) vwCl [(h_t, .inr (2, [.ref h_t_tally, .ref h_t_holding, .ref h_t_isHeld, .int t_seenChanges])), (h_t_holding, .inl (cI, 4096, .inl y2)), (h_a1, .inr (6, [.ref h_a1_cells, .int a1_size, .int a1_most, .int a1_draw, .int a1_changes])), (h_a1_cells, .inl (cI, 48, .inl a1_cells))] H := hP
            have hD : va_D A [(h_t, .inr (2, [.ref h_t_tally, .ref h_t_holding, .ref h_t_isHeld, .int t_seenChanges])), (h_t_holding, .inl (cI, 4096, .inl y2)), (h_a1, .inr (6, [.ref h_a1_cells, .int a1_size, .int a1_most, .int a1_draw, .int a1_changes])), (h_a1_cells, .inl (cI, 48, .inl a1_cells))] := hD
            refine lv_iinc (v := (x4 + (1 : Int32))) (lv' := [(4, .int (x4 + (1 : Int32))), (0, .ref h_t), (1, .ref h_a1), (2, .int x2), (3, .int x3)]) hx hb dX5_lookAt_97 hl (k := 4) rfl rfl (by decide) rfl (fun ls hl => ?_)
            refine lv_goto (tgt := 77) hx hb dX5_lookAt_100 (by decide) ?_
            exact ih77 (x4 + (1 : Int32)) y2 _ _ _ hf hP hD hS (lv_sub hl [1, 2, 3, 4, 0] rfl)
      have L41 : ∀ (x2 : Int32) (x3 : Int32) (n : Nat) (x4 : Int32) (t_holding : Nat → Int32) (H : Heap) (locs : List Loc) (ls : Array Slot), gi2 (p_X5_lookAt_41 a1_size a1_cells x2 x3 K14) n x4 t_holding → va_P (dC, dI) vwCl [(h_t, .inr (2, [.ref h_t_tally, .ref h_t_holding, .ref h_t_isHeld, .int t_seenChanges])), (h_t_holding, .inl (cI, 4096, .inl t_holding)), (h_a1, .inr (6, [.ref h_a1_cells, .int a1_size, .int a1_most, .int a1_draw, .int a1_changes])), (h_a1_cells, .inl (cI, 48, .inl a1_cells))] H → va_D A [(h_t, .inr (2, [.ref h_t_tally, .ref h_t_holding, .ref h_t_isHeld, .int t_seenChanges])), (h_t_holding, .inl (cI, 4096, .inl t_holding)), (h_a1, .inr (6, [.ref h_a1_cells, .int a1_size, .int a1_most, .int a1_draw, .int a1_changes])), (h_a1_cells, .inl (cI, 48, .inl a1_cells))] → va_S A s.heap H locs → lv_has ls 5 [(0, .ref h_t), (1, .ref h_a1), (2, .int x2), (3, .int x3), (4, .int x4)] → W p l e rm_X5_lookAt s m [.ref h_t, .ref h_a1].toArray below meth c H locs 0 0 QQ (F0 m 41 ls []) := by
        intro x2 x3 n
        induction n with
        | zero => intro x4 t_holding H locs ls hf; exact False.elim hf
        | succ n ih41 =>
          generalize hK41 : gi2 (p_X5_lookAt_41 a1_size a1_cells x2 x3 K14) n = K41 at ih41
          have L67 : ∀ (x4 : Int32) (t_holding : Nat → Int32) (s1 : Int32) (s2 : Int32) (H : Heap) (locs : List Loc) (ls : Array Slot), p_X5_lookAt_67 t_holding x4 s1 s2 K41 → va_P (dC, dI) vwCl [(h_t, .inr (2, [.ref h_t_tally, .ref h_t_holding, .ref h_t_isHeld, .int t_seenChanges])), (h_t_holding, .inl (cI, 4096, .inl t_holding)), (h_a1, .inr (6, [.ref h_a1_cells, .int a1_size, .int a1_most, .int a1_draw, .int a1_changes])), (h_a1_cells, .inl (cI, 48, .inl a1_cells))] H → va_D A [(h_t, .inr (2, [.ref h_t_tally, .ref h_t_holding, .ref h_t_isHeld, .int t_seenChanges])), (h_t_holding, .inl (cI, 4096, .inl t_holding)), (h_a1, .inr (6, [.ref h_a1_cells, .int a1_size, .int a1_most, .int a1_draw, .int a1_changes])), (h_a1_cells, .inl (cI, 48, .inl a1_cells))] → va_S A s.heap H locs → lv_has ls 5 [(0, .ref h_t), (1, .ref h_a1), (2, .int x2), (3, .int x3), (4, .int x4)] → W p l e rm_X5_lookAt s m [.ref h_t, .ref h_a1].toArray below meth c H locs 0 0 QQ (F0 m 67 ls [.int s2, .int s1, .ref h_t_holding]) := by
            intro x4 t_holding s1 s2 H locs ls hf hP hD hS hl
            obtain ⟨hb4, hf⟩ := hf
            refine va_iast hx hb hK hP hD hS 1 0 rfl rfl hb4 dX5_lookAt_67 (fun H locs hP hD hS => ?_)
            have hP : va_P (dC, dI) vwCl [(h_t, .inr (2, [.ref h_t_tally, .ref h_t_holding, .ref h_t_isHeld, .int t_seenChanges])), (h_t_holding, .inl (cI, 4096, .inl (upd t_holding s1.toNatClampNeg s2))), (h_a1, .inr (6, [.ref h_a1_cells, .int a1_size, .int a1_most, .int a1_draw, .int a1_changes])), (h_a1_cells, .inl (cI, 48, .inl a1_cells))] H := hP
            have hD : va_D A [(h_t, .inr (2, [.ref h_t_tally, .ref h_t_holding, .ref h_t_isHeld, .int t_seenChanges])), (h_t_holding, .inl (cI, 4096, .inl (upd t_holding s1.toNatClampNeg s2))), (h_a1, .inr (6, [.ref h_a1_cells, .int a1_size, .int a1_most, .int a1_draw, .int a1_changes])), (h_a1_cells, .inl (cI, 48, .inl a1_cells))] := hD
            refine lv_iinc (v := (x4 + (1 : Int32))) (lv' := [(4, .int (x4 + (1 : Int32))), (0, .ref h_t), (1, .ref h_a1), (2, .int x2), (3, .int x3)]) hx hb dX5_lookAt_68 hl (k := 4) rfl rfl (by decide) rfl (fun ls hl => ?_)
            refine lv_goto (tgt := 41) hx hb dX5_lookAt_71 (by decide) ?_
            exact ih41 (x4 + (1 : Int32)) (upd t_holding s1.toNatClampNeg s2) _ _ _ hf hP hD hS (lv_sub hl [1, 2, 3, 4, 0] rfl)
          intro x4 t_holding H locs ls hf hP hD hS hl
          have hf : p_X5_lookAt_41 a1_size a1_cells x2 x3 K14 (gi2 (p_X5_lookAt_41 a1_size a1_cells x2 x3 K14) n) x4 t_holding := hf
          rw [hK41] at hf
          refine lv_iload hx hb dX5_lookAt_41 (lv_at hl 4 rfl) ?_
          refine lv_bipush (v := (8 : Int32)) hx hb dX5_lookAt_43 (by decide) ?_
          refine lv_icmp_ge (tgt := 74) hx hb dX5_lookAt_45 (by decide) (fun hc6 => ?_) (fun hc6 => ?_)
          · have hf := hf.1 hc6
            refine lv_iconst (v := (0 : Int32)) hx hb dX5_lookAt_74 (by decide) ?_
            refine lv_istore (lv' := [(4, .int (0 : Int32)), (0, .ref h_t), (1, .ref h_a1), (2, .int x2), (3, .int x3)]) hx hb dX5_lookAt_75 hl (by decide) rfl (fun ls hl => ?_)
            obtain ⟨n, hf⟩ := hf
            exact L77 x2 x3 n (0 : Int32) t_holding _ _ _ hf hP hD hS (lv_sub hl [1, 2, 3, 4, 0] rfl)
          · have hf := hf.2 hc6
            refine lv_aload_n hx hb dX5_lookAt_48 rfl (lv_at hl 0 rfl) ?_
            refine va_get (D := (dC, dI)) (ci := 2) (v := .ref h_t_holding) (C := RX5) (T := TX5) (N := 4) hx hb hts hinX5 hown hK hP 0 rfl rfl 1 (by decide) q5 (fun _ h9 => h9) rfl dX5_lookAt_49 ?_
            refine lv_iload_n hx hb dX5_lookAt_52 rfl (lv_at hl 2 rfl) ?_
            refine lv_iload hx hb dX5_lookAt_53 (lv_at hl 4 rfl) ?_
            refine lv_iadd hx hb dX5_lookAt_55 ?_
            refine lv_iload hx hb dX5_lookAt_56 (lv_at hl 4 rfl) ?_
            refine lv_iload_n hx hb dX5_lookAt_58 rfl (lv_at hl 3 rfl) ?_
            refine lv_icmp_gt (tgt := 66) hx hb dX5_lookAt_59 (by decide) (fun hc5 => ?_) (fun hc5 => ?_)
            · have hf := hf.1 hc5
              refine lv_iconst (v := (-1 : Int32)) hx hb dX5_lookAt_66 (by decide) ?_
              exact L67 x4 t_holding (x2 + x4) (-1 : Int32) _ _ _ hf hP hD hS hl
            · have hf := hf.2 hc5
              refine lv_iconst (v := (0 : Int32)) hx hb dX5_lookAt_62 (by decide) ?_
              refine lv_goto (tgt := 67) hx hb dX5_lookAt_63 (by decide) ?_
              exact L67 x4 t_holding (x2 + x4) (0 : Int32) _ _ _ hf hP hD hS hl
      have L37 : ∀ (x2 : Int32) (t_holding : Nat → Int32) (s0 : Int32) (H : Heap) (locs : List Loc) (ls : Array Slot), p_X5_lookAt_37 t_holding a1_size a1_cells x2 s0 K14 → va_P (dC, dI) vwCl [(h_t, .inr (2, [.ref h_t_tally, .ref h_t_holding, .ref h_t_isHeld, .int t_seenChanges])), (h_t_holding, .inl (cI, 4096, .inl t_holding)), (h_a1, .inr (6, [.ref h_a1_cells, .int a1_size, .int a1_most, .int a1_draw, .int a1_changes])), (h_a1_cells, .inl (cI, 48, .inl a1_cells))] H → va_D A [(h_t, .inr (2, [.ref h_t_tally, .ref h_t_holding, .ref h_t_isHeld, .int t_seenChanges])), (h_t_holding, .inl (cI, 4096, .inl t_holding)), (h_a1, .inr (6, [.ref h_a1_cells, .int a1_size, .int a1_most, .int a1_draw, .int a1_changes])), (h_a1_cells, .inl (cI, 48, .inl a1_cells))] → va_S A s.heap H locs → lv_has ls 5 [(0, .ref h_t), (1, .ref h_a1), (2, .int x2)] → W p l e rm_X5_lookAt s m [.ref h_t, .ref h_a1].toArray below meth c H locs 0 0 QQ (F0 m 37 ls [.int s0]) := by
        intro x2 t_holding s0 H locs ls hf hP hD hS hl
        refine lv_istore_n (lv' := [(3, .int s0), (0, .ref h_t), (1, .ref h_a1), (2, .int x2)]) hx hb dX5_lookAt_37 rfl hl (by decide) rfl (fun ls hl => ?_)
        refine lv_iconst (v := (0 : Int32)) hx hb dX5_lookAt_38 (by decide) ?_
        refine lv_istore (lv' := [(4, .int (0 : Int32)), (3, .int s0), (0, .ref h_t), (1, .ref h_a1), (2, .int x2)]) hx hb dX5_lookAt_39 hl (by decide) rfl (fun ls hl => ?_)
        obtain ⟨n, hf⟩ := hf
        exact L41 x2 s0 n (0 : Int32) t_holding _ _ _ hf hP hD hS (lv_sub hl [2, 3, 4, 1, 0] rfl)
      intro x2 t_holding H locs ls hf hP hD hS hl
      have hf : p_X5_lookAt_14 a1_size a1_most a1_changes a1_cells Q (gi2 (p_X5_lookAt_14 a1_size a1_most a1_changes a1_cells Q) n) x2 t_holding := hf
      rw [hK14] at hf
      refine lv_iload_n hx hb dX5_lookAt_14 rfl (lv_at hl 2 rfl) ?_
      refine lv_sipush (v := (4095 : Int32)) hx hb dX5_lookAt_15 (by decide) ?_
      refine lv_icmp_gt (tgt := 109) hx hb dX5_lookAt_18 (by decide) (fun hc8 => ?_) (fun hc8 => ?_)
      · have hf := hf.1 hc8
        refine lv_aload_n hx hb dX5_lookAt_109 rfl (lv_at hl 0 rfl) ?_
        refine lv_aload_n hx hb dX5_lookAt_110 rfl (lv_at hl 1 rfl) ?_
        refine va_get (D := (dC, dI)) (ci := 6) (v := .int a1_changes) (C := RX9) (T := TX9) (N := 5) hx hb hts hinX9 hown hK hP 2 rfl rfl 4 (by decide) q2 (fun _ h9 => h9) rfl dX5_lookAt_111 ?_
        refine va_put (D := (dC, dI)) (ci := 2) (v := .int a1_changes) (ty := .int) (C := RX5) (T := TX5) (N := 4) hx hb hts hinX5 tyX5 tyX5_ok nmX5 hown hK hP hD hS 0 rfl rfl 3 (by decide) q0 (fun _ h9 => h9) rfl (by decide +kernel) rfl rfl (Nat.le_of_ble_eq_true rfl) dX5_lookAt_114 (fun H locs hP hD hS => ?_)
        have hP : va_P (dC, dI) vwCl [(h_t, .inr (2, [.ref h_t_tally, .ref h_t_holding, .ref h_t_isHeld, .int a1_changes])), (h_t_holding, .inl (cI, 4096, .inl t_holding)), (h_a1, .inr (6, [.ref h_a1_cells, .int a1_size, .int a1_most, .int a1_draw, .int a1_changes])), (h_a1_cells, .inl (cI, 48, .inl a1_cells))] H := hP
        have hD : va_D A [(h_t, .inr (2, [.ref h_t_tally, .ref h_t_holding, .ref h_t_isHeld, .int a1_changes])), (h_t_holding, .inl (cI, 4096, .inl t_holding)), (h_a1, .inr (6, [.ref h_a1_cells, .int a1_size, .int a1_most, .int a1_draw, .int a1_changes])), (h_a1_cells, .inl (cI, 48, .inl a1_cells))] := hD
        exact ret _ _ _ _ (a1_changes, t_holding) hf hP hD hS dX5_lookAt_117
      · have hf := hf.2 hc8
        refine lv_aload_n hx hb dX5_lookAt_21 rfl (lv_at hl 1 rfl) ?_
        refine lv_iload_n hx hb dX5_lookAt_22 rfl (lv_at hl 2 rfl) ?_
        refine gz_iR (va_runV (As := [.int x2]) (rest := []) ⟨hx, hb, hml, hown, hts⟩ (c_X9_isInBox l dC dI cI cJ cC cZ h_a1 h_a1_cells H.size a1_size a1_most a1_draw a1_changes x2 _ hf) (cwV 1 hts gX5_lookAt_X9_isInBox rfl rfl rfl (by decide +kernel) ⟨Nat.le_of_ble_eq_true rfl, Nat.le_of_ble_eq_true rfl⟩) ⟨gz_blind, va_recv hK hP (ci := 6) (q0 := 2) rfl rfl, gz_pre (gz_P_of hP (is := [2]) (wc := [(h_a1, .inr (6, [.ref h_a1_cells, .int a1_size, .int a1_most, .int a1_draw, .int a1_changes]))]) rfl) hK (hD.sub [2] (by decide) rfl) gz_N0⟩ rfl rfl hl.1 rfl (lv_room (Nat.le_of_ble_eq_true rfl)) dX5_lookAt_23 ⟨Nat.le_refl _, Nat.le_refl _⟩) hP hD hS hA [2] rfl (fun r1 H locs hf hP hS => ?_)
        refine lv_if_eq (tgt := 36) hx hb dX5_lookAt_26 (by decide) (fun hc7 => ?_) (fun hc7 => ?_)
        · have hf := hf.1 hc7
          refine lv_iconst (v := (-1 : Int32)) hx hb dX5_lookAt_36 (by decide) ?_
          exact L37 x2 t_holding (-1 : Int32) _ _ _ hf hP hD hS hl
        · have hf := hf.2 hc7
          refine lv_aload_n hx hb dX5_lookAt_29 rfl (lv_at hl 1 rfl) ?_
          refine va_get (D := (dC, dI)) (ci := 6) (v := .int a1_most) (C := RX9) (T := TX9) (N := 5) hx hb hts hinX9 hown hK hP 2 rfl rfl 2 (by decide) q6 (fun _ h9 => h9) rfl dX5_lookAt_30 ?_
          refine lv_goto (tgt := 37) hx hb dX5_lookAt_33 (by decide) ?_
          exact L37 x2 t_holding a1_most _ _ _ hf hP hD hS hl
  have hf := hw
  refine lv_aload_n hx hb dX5_lookAt_0 rfl (lv_at hl 0 rfl) ?_
  refine va_get (D := (dC, dI)) (ci := 2) (v := .int t_seenChanges) (C := RX5) (T := TX5) (N := 4) hx hb hts hinX5 hown hK hP 0 rfl rfl 3 (by decide) q0 (fun _ h9 => h9) rfl dX5_lookAt_1 ?_
  refine lv_aload_n hx hb dX5_lookAt_4 rfl (lv_at hl 1 rfl) ?_
  refine va_get (D := (dC, dI)) (ci := 6) (v := .int a1_changes) (C := RX9) (T := TX9) (N := 5) hx hb hts hinX9 hown hK hP 2 rfl rfl 4 (by decide) q2 (fun _ h9 => h9) rfl dX5_lookAt_5 ?_
  refine lv_icmp_ne (tgt := 12) hx hb dX5_lookAt_8 (by decide) (fun hc9 => ?_) (fun hc9 => ?_)
  · have hf := hf.2 hc9
    refine lv_iconst (v := (0 : Int32)) hx hb dX5_lookAt_12 (by decide) ?_
    refine lv_istore_n (lv' := [(2, .int (0 : Int32)), (0, .ref h_t), (1, .ref h_a1)]) hx hb dX5_lookAt_13 rfl hl (by decide) rfl (fun ls hl => ?_)
    obtain ⟨n, hf⟩ := hf
    exact L14 t_seenChanges n (0 : Int32) t_holding _ _ _ hf hP hD hS (lv_sub hl [1, 2, 0] rfl)
  · have hf := hf.1 hc9
    exact ret _ _ _ _ (t_seenChanges, t_holding) hf hP hD hS dX5_lookAt_11
abbrev rm_X9_all : Room := { frames := 0, cells := 0, slots := 0, locals := 0 }
set_option maxHeartbeats 4000000 in
set_option maxRecDepth 100000 in
theorem c_X9_all (l : Launch) (dC : Nat → ClassId) (dI : Nat → Nat → Nat) (cI cJ cC cZ : ClassId) (h_t h_t_cells : Nat) (sz : Nat) (t_size : Int32) (t_most : Int32) (t_draw : Int32) (t_changes : Int32) (Q : Int32 → Prop) (hw : p_X9_all t_size Q) : Met l yX9_all wsX9_all rm_X9_all (va_Pc [.ref h_t] (gz_B (dC, dI) (gz_T cI cJ cC cZ) [] sz [(h_t, .inr (6, [.ref h_t_cells, .int t_size, .int t_most, .int t_draw, .int t_changes]))])) (va_Qi (fun (r : Int32) (u : Unit) => Q r) (fun u t => gz_E (dC, dI) (gz_T cI cJ cC cZ) (va_A [(h_t, .inr (6, [.ref h_t_cells, .int t_size, .int t_most, .int t_draw, .int t_changes]))] sz) [(h_t, .inr (6, [.ref h_t_cells, .int t_size, .int t_most, .int t_draw, .int t_changes]))] t) (va_A [(h_t, .inr (6, [.ref h_t_cells, .int t_size, .int t_most, .int t_draw, .int t_changes]))] sz)) 0 0 (va_A [(h_t, .inr (6, [.ref h_t_cells, .int t_size, .int t_most, .int t_draw, .int t_changes]))] sz) := by
  refine gz_mi (cc := cX9_all) (maxL := 1) (plainFor_of_name (by decide +kernel)) rfl (Nat.le_of_ble_eq_true rfl) ?_
  intro p e s m below meth c A QQ ls hx hb hml hown0 hts hK hN hA hP hD hS hl ret
  have hown : s.vm.findClass RX9 = some m.cls := hown0
  have hl : lv_has ls 1 [(0, .ref h_t)] := hl
  have q0 := hts (.fieldLink RX9 30 "DarkShadows$Told" "size" "I") (List.mem_cons_of_mem _ (List.mem_append_left _ (List.mem_of_getElem? (i := 0) rfl)))
  have hinX9 : ∀ w ∈ wsX90, w ∈ wsX9_all := fun w h => List.mem_cons_of_mem _ (List.mem_append_right _ h)
  have hf := hw
  refine lv_iconst (v := (1 : Int32)) hx hb dX9_all_0 (by decide) ?_
  refine lv_aload_n hx hb dX9_all_1 rfl (lv_at hl 0 rfl) ?_
  refine va_get (D := (dC, dI)) (ci := 6) (v := .int t_size) (C := RX9) (T := TX9) (N := 5) hx hb hts hinX9 hown hK hP 0 rfl rfl 1 (by decide) q0 (fun _ h9 => h9) rfl dX9_all_2 ?_
  refine lv_ishl hx hb dX9_all_5 ?_
  refine lv_iconst (v := (1 : Int32)) hx hb dX9_all_6 (by decide) ?_
  refine lv_isub hx hb dX9_all_7 ?_
  exact ret _ _ _ _ (((1 : Int32) <<< (t_size &&& 31)) - (1 : Int32)) () hf hP hD hS dX9_all_8
abbrev rm_X5_pointFrom : Room := { frames := 4, cells := 0, slots := 0, locals := 96 }
set_option maxHeartbeats 4000000 in
set_option maxRecDepth 100000 in
theorem c_X5_pointFrom (l : Launch) (dC : Nat → ClassId) (dI : Nat → Nat → Nat) (cI cJ cC cZ : ClassId) (h_t h_t_tally h_t_holding h_t_isHeld h_a1 h_a1_cells : Nat) (sz : Nat) (t_seenChanges : Int32) (t_holding : Nat → Int32) (a1_size : Int32) (a1_most : Int32) (a1_draw : Int32) (a1_changes : Int32) (a1_cells : Nat → Int32) (x2 : Int32) (Q : Int32 → Int32 → (Nat → Int32) → Prop) (hw : p_X5_pointFrom t_seenChanges t_holding a1_size a1_most a1_changes a1_cells x2 Q) : Met l yX5_pointFrom wsX5_pointFrom rm_X5_pointFrom (va_Pc [.ref h_t, .ref h_a1, .int x2] (gz_B (dC, dI) (gz_T cI cJ cC cZ) [] sz [(h_t, .inr (2, [.ref h_t_tally, .ref h_t_holding, .ref h_t_isHeld, .int t_seenChanges])), (h_t_holding, .inl (cI, 4096, .inl t_holding)), (h_a1, .inr (6, [.ref h_a1_cells, .int a1_size, .int a1_most, .int a1_draw, .int a1_changes])), (h_a1_cells, .inl (cI, 48, .inl a1_cells))])) (va_Qi (fun (r : Int32) (u : Int32 × (Nat → Int32)) => Q r u.1 u.2) (fun u t => gz_E (dC, dI) (gz_T cI cJ cC cZ) (va_A [(h_t, .inr (2, [.ref h_t_tally, .ref h_t_holding, .ref h_t_isHeld, .int t_seenChanges])), (h_t_holding, .inl (cI, 4096, .inl t_holding)), (h_a1, .inr (6, [.ref h_a1_cells, .int a1_size, .int a1_most, .int a1_draw, .int a1_changes])), (h_a1_cells, .inl (cI, 48, .inl a1_cells))] sz) [(h_t, .inr (2, [.ref h_t_tally, .ref h_t_holding, .ref h_t_isHeld, .int u.1])), (h_t_holding, .inl (cI, 4096, .inl u.2)), (h_a1, .inr (6, [.ref h_a1_cells, .int a1_size, .int a1_most, .int a1_draw, .int a1_changes])), (h_a1_cells, .inl (cI, 48, .inl a1_cells))] t) (va_A [(h_t, .inr (2, [.ref h_t_tally, .ref h_t_holding, .ref h_t_isHeld, .int t_seenChanges])), (h_t_holding, .inl (cI, 4096, .inl t_holding)), (h_a1, .inr (6, [.ref h_a1_cells, .int a1_size, .int a1_most, .int a1_draw, .int a1_changes])), (h_a1_cells, .inl (cI, 48, .inl a1_cells))] sz)) 0 0 (va_A [(h_t, .inr (2, [.ref h_t_tally, .ref h_t_holding, .ref h_t_isHeld, .int t_seenChanges])), (h_t_holding, .inl (cI, 4096, .inl t_holding)), (h_a1, .inr (6, [.ref h_a1_cells, .int a1_size, .int a1_most, .int a1_draw, .int a1_changes])), (h_a1_cells, .inl (cI, 48, .inl a1_cells))] sz) := by
  refine gz_mi (cc := cX5_pointFrom) (maxL := 5) (plainFor_of_name (by decide +kernel)) rfl (Nat.le_of_ble_eq_true rfl) ?_
  intro p e s m below meth c A QQ ls hx hb hml hown0 hts hK hN hA hP hD hS hl ret
  have hown : s.vm.findClass RX5 = some m.cls := hown0
  have hl : lv_has ls 5 [(0, .ref h_t), (1, .ref h_a1), (2, .int x2)] := hl
  have q0 := hts (.fieldLink RX5 15 "DarkShadows$Search" "holding" "[I") (List.mem_cons_of_mem _ (List.mem_append_left _ (List.mem_append_left _ (List.mem_append_left _ (List.mem_of_getElem? (i := 0) rfl)))))
  have hinX5 : ∀ w ∈ wsX50, w ∈ wsX5_pointFrom := fun w h => List.mem_cons_of_mem _ (List.mem_append_left _ (List.mem_append_right _ h))
  have L13 : ∀ (x3 : Int32) (t_seenChanges : Int32) (t_holding : Nat → Int32) (n : Nat) (x4 : Int32) (H : Heap) (locs : List Loc) (ls : Array Slot), gi1 (p_X5_pointFrom_13 t_seenChanges t_holding x3 Q) n x4 → va_P (dC, dI) vwCl [(h_t, .inr (2, [.ref h_t_tally, .ref h_t_holding, .ref h_t_isHeld, .int t_seenChanges])), (h_t_holding, .inl (cI, 4096, .inl t_holding)), (h_a1, .inr (6, [.ref h_a1_cells, .int a1_size, .int a1_most, .int a1_draw, .int a1_changes])), (h_a1_cells, .inl (cI, 48, .inl a1_cells))] H → va_D A [(h_t, .inr (2, [.ref h_t_tally, .ref h_t_holding, .ref h_t_isHeld, .int t_seenChanges])), (h_t_holding, .inl (cI, 4096, .inl t_holding)), (h_a1, .inr (6, [.ref h_a1_cells, .int a1_size, .int a1_most, .int a1_draw, .int a1_changes])), (h_a1_cells, .inl (cI, 48, .inl a1_cells))] → va_S A s.heap H locs → lv_has ls 5 [(0, .ref h_t), (3, .int x3), (4, .int x4)] → W p l e rm_X5_pointFrom s m [.ref h_t, .ref h_a1, .int x2].toArray below meth c H locs 0 0 QQ (F0 m 13 ls []) := by
    intro x3 t_seenChanges t_holding n
    induction n with
    | zero => intro x4 H locs ls hf; exact False.elim hf
    | succ n ih13 =>
      generalize hK13 : gi1 (p_X5_pointFrom_13 t_seenChanges t_holding x3 Q) n = K13 at ih13
      intro x4 H locs ls hf hP hD hS hl
      have hf : p_X5_pointFrom_13 t_seenChanges t_holding x3 Q (gi1 (p_X5_pointFrom_13 t_seenChanges t_holding x3 Q) n) x4 := hf
      rw [hK13] at hf
      refine lv_iload hx hb dX5_pointFrom_13 (lv_at hl 2 rfl) ?_
      refine lv_sipush (v := (4095 : Int32)) hx hb dX5_pointFrom_15 (by decide) ?_
      refine lv_icmp_gt (tgt := 41) hx hb dX5_pointFrom_18 (by decide) (fun hc6 => ?_) (fun hc6 => ?_)
      · have hf := hf.1 hc6
        refine lv_iconst (v := (-1 : Int32)) hx hb dX5_pointFrom_41 (by decide) ?_
        exact ret _ _ _ _ (-1 : Int32) (t_seenChanges, t_holding) hf hP hD hS dX5_pointFrom_42
      · have hf := hf.2 hc6
        refine lv_aload_n hx hb dX5_pointFrom_21 rfl (lv_at hl 0 rfl) ?_
        refine va_get (D := (dC, dI)) (ci := 2) (v := .ref h_t_holding) (C := RX5) (T := TX5) (N := 4) hx hb hts hinX5 hown hK hP 0 rfl rfl 1 (by decide) q0 (fun _ h9 => h9) rfl dX5_pointFrom_22 ?_
        refine lv_iload hx hb dX5_pointFrom_25 (lv_at hl 2 rfl) ?_
        obtain ⟨hb4, hf⟩ := hf
        refine va_iald hx hb hK hP 1 0 rfl rfl hb4 dX5_pointFrom_27 ?_
        refine lv_iload_n hx hb dX5_pointFrom_28 rfl (lv_at hl 1 rfl) ?_
        refine lv_icmp_ne (tgt := 35) hx hb dX5_pointFrom_29 (by decide) (fun hc5 => ?_) (fun hc5 => ?_)
        · have hf := hf.2 hc5
          refine lv_iinc (v := (x4 + (1 : Int32))) (lv' := [(4, .int (x4 + (1 : Int32))), (0, .ref h_t), (3, .int x3)]) hx hb dX5_pointFrom_35 hl (k := 2) rfl rfl (by decide) rfl (fun ls hl => ?_)
          refine lv_goto (tgt := 13) hx hb dX5_pointFrom_38 (by decide) ?_
          exact ih13 (x4 + (1 : Int32)) _ _ _ hf hP hD hS (lv_sub hl [1, 2, 0] rfl)
        · have hf := hf.1 hc5
          refine lv_iload hx hb dX5_pointFrom_32 (lv_at hl 2 rfl) ?_
          exact ret _ _ _ _ x4 (t_seenChanges, t_holding) hf hP hD hS dX5_pointFrom_34
  have hf := hw
  refine lv_aload_n hx hb dX5_pointFrom_0 rfl (lv_at hl 0 rfl) ?_
  refine lv_aload_n hx hb dX5_pointFrom_1 rfl (lv_at hl 1 rfl) ?_
  refine gz_v (W1 := (fun u : Int32 × (Nat → Int32) => [(h_t, .inr (2, [.ref h_t_tally, .ref h_t_holding, .ref h_t_isHeld, .int u.1])), (h_t_holding, .inl (cI, 4096, .inl u.2)), (h_a1, .inr (6, [.ref h_a1_cells, .int a1_size, .int a1_most, .int a1_draw, .int a1_changes])), (h_a1_cells, .inl (cI, 48, .inl a1_cells))])) (wn := (fun u : Int32 × (Nat → Int32) => [(h_t, .inr (2, [.ref h_t_tally, .ref h_t_holding, .ref h_t_isHeld, .int u.1])), (h_t_holding, .inl (cI, 4096, .inl u.2)), (h_a1, .inr (6, [.ref h_a1_cells, .int a1_size, .int a1_most, .int a1_draw, .int a1_changes])), (h_a1_cells, .inl (cI, 48, .inl a1_cells))])) (wr := []) (va_runV (As := [.ref h_a1]) (rest := []) ⟨hx, hb, hml, hown, hts⟩ (c_X5_lookAt l dC dI cI cJ cC cZ h_t h_t_tally h_t_holding h_t_isHeld h_a1 h_a1_cells s.heap.size t_seenChanges t_holding a1_size a1_most a1_draw a1_changes a1_cells _ hf) (cwV 1 hts gX5_pointFrom_X5_lookAt rfl rfl rfl (by decide +kernel) ⟨Nat.le_of_ble_eq_true rfl, Nat.le_of_ble_eq_true rfl⟩) ⟨gz_blind, va_recv hK hP (ci := 2) (q0 := 0) rfl rfl, gz_pre (gz_P_of hP (is := [0, 1, 2, 3]) (wc := [(h_t, .inr (2, [.ref h_t_tally, .ref h_t_holding, .ref h_t_isHeld, .int t_seenChanges])), (h_t_holding, .inl (cI, 4096, .inl t_holding)), (h_a1, .inr (6, [.ref h_a1_cells, .int a1_size, .int a1_most, .int a1_draw, .int a1_changes])), (h_a1_cells, .inl (cI, 48, .inl a1_cells))]) rfl) hK (hD.sub [0, 1, 2, 3] (by decide) rfl) gz_N0⟩ rfl rfl hl.1 rfl (lv_room (Nat.le_of_ble_eq_true rfl)) dX5_pointFrom_2 ⟨Nat.le_refl _, Nat.le_refl _⟩) hP hD hS hA [0, 1, 2, 3] [] [0, 1, 2, 3] rfl rfl (by decide) (by decide) (fun _ => rfl) (by decide) (fun  u H locs hf hP hD hS => ?_)
  obtain ⟨y1, y2⟩ := u
  have hP : va_P (dC, dI) vwCl [(h_t, .inr (2, [.ref h_t_tally, .ref h_t_holding, .ref h_t_isHeld, .int y1])), (h_t_holding, .inl (cI, 4096, .inl y2)), (h_a1, .inr (6, [.ref h_a1_cells, .int a1_size, .int a1_most, .int a1_draw, .int a1_changes])), (h_a1_cells, .inl (cI, 48, .inl a1_cells))] H := hP
  have hD : va_D A [(h_t, .inr (2, [.ref h_t_tally, .ref h_t_holding, .ref h_t_isHeld, .int y1])), (h_t_holding, .inl (cI, 4096, .inl y2)), (h_a1, .inr (6, [.ref h_a1_cells, .int a1_size, .int a1_most, .int a1_draw, .int a1_changes])), (h_a1_cells, .inl (cI, 48, .inl a1_cells))] := hD
  refine lv_aload_n hx hb dX5_pointFrom_5 rfl (lv_at hl 1 rfl) ?_
  refine gz_iR (va_runV (As := []) (rest := []) ⟨hx, hb, hml, hown, hts⟩ (c_X9_all l dC dI cI cJ cC cZ h_a1 h_a1_cells H.size a1_size a1_most a1_draw a1_changes _ hf) (cwV 0 hts gX5_pointFrom_X9_all rfl rfl rfl (by decide +kernel) ⟨Nat.le_of_ble_eq_true rfl, Nat.le_of_ble_eq_true rfl⟩) ⟨gz_blind, va_recv hK hP (ci := 6) (q0 := 2) rfl rfl, gz_pre (gz_P_of hP (is := [2]) (wc := [(h_a1, .inr (6, [.ref h_a1_cells, .int a1_size, .int a1_most, .int a1_draw, .int a1_changes]))]) rfl) hK (hD.sub [2] (by decide) rfl) gz_N0⟩ rfl rfl hl.1 rfl (lv_room (Nat.le_of_ble_eq_true rfl)) dX5_pointFrom_6 ⟨Nat.le_refl _, Nat.le_refl _⟩) hP hD hS hA [2] rfl (fun r3 H locs hf hP hS => ?_)
  refine lv_istore_n (lv' := [(3, .int r3), (0, .ref h_t), (1, .ref h_a1), (2, .int x2)]) hx hb dX5_pointFrom_9 rfl hl (by decide) rfl (fun ls hl => ?_)
  refine lv_iload_n hx hb dX5_pointFrom_10 rfl (lv_at hl 3 rfl) ?_
  refine lv_istore (lv' := [(4, .int x2), (3, .int r3), (0, .ref h_t), (1, .ref h_a1), (2, .int x2)]) hx hb dX5_pointFrom_11 hl (by decide) rfl (fun ls hl => ?_)
  obtain ⟨n, hf⟩ := hf
  exact L13 r3 y1 y2 n x2 _ _ _ hf hP hD hS (lv_sub hl [2, 1, 0] rfl)
abbrev rm_X5_pointCount : Room := { frames := 4, cells := 0, slots := 0, locals := 96 }
set_option maxHeartbeats 4000000 in
set_option maxRecDepth 100000 in
theorem c_X5_pointCount (l : Launch) (dC : Nat → ClassId) (dI : Nat → Nat → Nat) (cI cJ cC cZ : ClassId) (h_t h_t_tally h_t_holding h_t_isHeld h_a1 h_a1_cells : Nat) (sz : Nat) (t_seenChanges : Int32) (t_holding : Nat → Int32) (a1_size : Int32) (a1_most : Int32) (a1_draw : Int32) (a1_changes : Int32) (a1_cells : Nat → Int32) (Q : Int32 → Int32 → (Nat → Int32) → Prop) (hw : p_X5_pointCount t_seenChanges t_holding a1_size a1_most a1_changes a1_cells Q) : Met l yX5_pointCount wsX5_pointCount rm_X5_pointCount (va_Pc [.ref h_t, .ref h_a1] (gz_B (dC, dI) (gz_T cI cJ cC cZ) [] sz [(h_t, .inr (2, [.ref h_t_tally, .ref h_t_holding, .ref h_t_isHeld, .int t_seenChanges])), (h_t_holding, .inl (cI, 4096, .inl t_holding)), (h_a1, .inr (6, [.ref h_a1_cells, .int a1_size, .int a1_most, .int a1_draw, .int a1_changes])), (h_a1_cells, .inl (cI, 48, .inl a1_cells))])) (va_Qi (fun (r : Int32) (u : Int32 × (Nat → Int32)) => Q r u.1 u.2) (fun u t => gz_E (dC, dI) (gz_T cI cJ cC cZ) (va_A [(h_t, .inr (2, [.ref h_t_tally, .ref h_t_holding, .ref h_t_isHeld, .int t_seenChanges])), (h_t_holding, .inl (cI, 4096, .inl t_holding)), (h_a1, .inr (6, [.ref h_a1_cells, .int a1_size, .int a1_most, .int a1_draw, .int a1_changes])), (h_a1_cells, .inl (cI, 48, .inl a1_cells))] sz) [(h_t, .inr (2, [.ref h_t_tally, .ref h_t_holding, .ref h_t_isHeld, .int u.1])), (h_t_holding, .inl (cI, 4096, .inl u.2)), (h_a1, .inr (6, [.ref h_a1_cells, .int a1_size, .int a1_most, .int a1_draw, .int a1_changes])), (h_a1_cells, .inl (cI, 48, .inl a1_cells))] t) (va_A [(h_t, .inr (2, [.ref h_t_tally, .ref h_t_holding, .ref h_t_isHeld, .int t_seenChanges])), (h_t_holding, .inl (cI, 4096, .inl t_holding)), (h_a1, .inr (6, [.ref h_a1_cells, .int a1_size, .int a1_most, .int a1_draw, .int a1_changes])), (h_a1_cells, .inl (cI, 48, .inl a1_cells))] sz)) 0 0 (va_A [(h_t, .inr (2, [.ref h_t_tally, .ref h_t_holding, .ref h_t_isHeld, .int t_seenChanges])), (h_t_holding, .inl (cI, 4096, .inl t_holding)), (h_a1, .inr (6, [.ref h_a1_cells, .int a1_size, .int a1_most, .int a1_draw, .int a1_changes])), (h_a1_cells, .inl (cI, 48, .inl a1_cells))] sz) := by
  refine gz_mi (cc := cX5_pointCount) (maxL := 5) (plainFor_of_name (by decide +kernel)) rfl (Nat.le_of_ble_eq_true rfl) ?_
  intro p e s m below meth c A QQ ls hx hb hml hown0 hts hK hN hA hP hD hS hl ret
  have hown : s.vm.findClass RX5 = some m.cls := hown0
  have hl : lv_has ls 5 [(0, .ref h_t), (1, .ref h_a1)] := hl
  have q0 := hts (.fieldLink RX5 15 "DarkShadows$Search" "holding" "[I") (List.mem_cons_of_mem _ (List.mem_append_left _ (List.mem_append_left _ (List.mem_append_left _ (List.mem_of_getElem? (i := 0) rfl)))))
  have hinX5 : ∀ w ∈ wsX50, w ∈ wsX5_pointCount := fun w h => List.mem_cons_of_mem _ (List.mem_append_left _ (List.mem_append_right _ h))
  have L15 : ∀ (x2 : Int32) (t_seenChanges : Int32) (t_holding : Nat → Int32) (n : Nat) (x3 : Int32) (x4 : Int32) (H : Heap) (locs : List Loc) (ls : Array Slot), gi2 (p_X5_pointCount_15 t_seenChanges t_holding x2 Q) n x3 x4 → va_P (dC, dI) vwCl [(h_t, .inr (2, [.ref h_t_tally, .ref h_t_holding, .ref h_t_isHeld, .int t_seenChanges])), (h_t_holding, .inl (cI, 4096, .inl t_holding)), (h_a1, .inr (6, [.ref h_a1_cells, .int a1_size, .int a1_most, .int a1_draw, .int a1_changes])), (h_a1_cells, .inl (cI, 48, .inl a1_cells))] H → va_D A [(h_t, .inr (2, [.ref h_t_tally, .ref h_t_holding, .ref h_t_isHeld, .int t_seenChanges])), (h_t_holding, .inl (cI, 4096, .inl t_holding)), (h_a1, .inr (6, [.ref h_a1_cells, .int a1_size, .int a1_most, .int a1_draw, .int a1_changes])), (h_a1_cells, .inl (cI, 48, .inl a1_cells))] → va_S A s.heap H locs → lv_has ls 5 [(0, .ref h_t), (2, .int x2), (3, .int x3), (4, .int x4)] → W p l e rm_X5_pointCount s m [.ref h_t, .ref h_a1].toArray below meth c H locs 0 0 QQ (F0 m 15 ls []) := by
    intro x2 t_seenChanges t_holding n
    induction n with
    | zero => intro x3 x4 H locs ls hf; exact False.elim hf
    | succ n ih15 =>
      generalize hK15 : gi2 (p_X5_pointCount_15 t_seenChanges t_holding x2 Q) n = K15 at ih15
      have L37 : ∀ (x3 : Int32) (x4 : Int32) (H : Heap) (locs : List Loc) (ls : Array Slot), p_X5_pointCount_37 x3 x4 K15 → va_P (dC, dI) vwCl [(h_t, .inr (2, [.ref h_t_tally, .ref h_t_holding, .ref h_t_isHeld, .int t_seenChanges])), (h_t_holding, .inl (cI, 4096, .inl t_holding)), (h_a1, .inr (6, [.ref h_a1_cells, .int a1_size, .int a1_most, .int a1_draw, .int a1_changes])), (h_a1_cells, .inl (cI, 48, .inl a1_cells))] H → va_D A [(h_t, .inr (2, [.ref h_t_tally, .ref h_t_holding, .ref h_t_isHeld, .int t_seenChanges])), (h_t_holding, .inl (cI, 4096, .inl t_holding)), (h_a1, .inr (6, [.ref h_a1_cells, .int a1_size, .int a1_most, .int a1_draw, .int a1_changes])), (h_a1_cells, .inl (cI, 48, .inl a1_cells))] → va_S A s.heap H locs → lv_has ls 5 [(0, .ref h_t), (2, .int x2), (3, .int x3), (4, .int x4)] → W p l e rm_X5_pointCount s m [.ref h_t, .ref h_a1].toArray below meth c H locs 0 0 QQ (F0 m 37 ls []) := by
        intro x3 x4 H locs ls hf hP hD hS hl
        refine lv_iinc (v := (x4 + (1 : Int32))) (lv' := [(4, .int (x4 + (1 : Int32))), (0, .ref h_t), (2, .int x2), (3, .int x3)]) hx hb dX5_pointCount_37 hl (k := 3) rfl rfl (by decide) rfl (fun ls hl => ?_)
        refine lv_goto (tgt := 15) hx hb dX5_pointCount_40 (by decide) ?_
        exact ih15 x3 (x4 + (1 : Int32)) _ _ _ hf hP hD hS (lv_sub hl [1, 2, 3, 0] rfl)
      intro x3 x4 H locs ls hf hP hD hS hl
      have hf : p_X5_pointCount_15 t_seenChanges t_holding x2 Q (gi2 (p_X5_pointCount_15 t_seenChanges t_holding x2 Q) n) x3 x4 := hf
      rw [hK15] at hf
      refine lv_iload hx hb dX5_pointCount_15 (lv_at hl 3 rfl) ?_
      refine lv_sipush (v := (4095 : Int32)) hx hb dX5_pointCount_17 (by decide) ?_
      refine lv_icmp_gt (tgt := 43) hx hb dX5_pointCount_20 (by decide) (fun hc6 => ?_) (fun hc6 => ?_)
      · have hf := hf.1 hc6
        refine lv_iload_n hx hb dX5_pointCount_43 rfl (lv_at hl 2 rfl) ?_
        exact ret _ _ _ _ x3 (t_seenChanges, t_holding) hf hP hD hS dX5_pointCount_44
      · have hf := hf.2 hc6
        refine lv_aload_n hx hb dX5_pointCount_23 rfl (lv_at hl 0 rfl) ?_
        refine va_get (D := (dC, dI)) (ci := 2) (v := .ref h_t_holding) (C := RX5) (T := TX5) (N := 4) hx hb hts hinX5 hown hK hP 0 rfl rfl 1 (by decide) q0 (fun _ h9 => h9) rfl dX5_pointCount_24 ?_
        refine lv_iload hx hb dX5_pointCount_27 (lv_at hl 3 rfl) ?_
        obtain ⟨hb4, hf⟩ := hf
        refine va_iald hx hb hK hP 1 0 rfl rfl hb4 dX5_pointCount_29 ?_
        refine lv_iload_n hx hb dX5_pointCount_30 rfl (lv_at hl 1 rfl) ?_
        refine lv_icmp_ne (tgt := 37) hx hb dX5_pointCount_31 (by decide) (fun hc5 => ?_) (fun hc5 => ?_)
        · have hf := hf.2 hc5
          exact L37 x3 x4 _ _ _ hf hP hD hS hl
        · have hf := hf.1 hc5
          refine lv_iinc (v := (x3 + (1 : Int32))) (lv' := [(3, .int (x3 + (1 : Int32))), (0, .ref h_t), (2, .int x2), (4, .int x4)]) hx hb dX5_pointCount_34 hl (k := 2) rfl rfl (by decide) rfl (fun ls hl => ?_)
          exact L37 (x3 + (1 : Int32)) x4 _ _ _ hf hP hD hS (lv_sub hl [1, 2, 0, 3] rfl)
  have hf := hw
  refine lv_aload_n hx hb dX5_pointCount_0 rfl (lv_at hl 0 rfl) ?_
  refine lv_aload_n hx hb dX5_pointCount_1 rfl (lv_at hl 1 rfl) ?_
  refine gz_v (W1 := (fun u : Int32 × (Nat → Int32) => [(h_t, .inr (2, [.ref h_t_tally, .ref h_t_holding, .ref h_t_isHeld, .int u.1])), (h_t_holding, .inl (cI, 4096, .inl u.2)), (h_a1, .inr (6, [.ref h_a1_cells, .int a1_size, .int a1_most, .int a1_draw, .int a1_changes])), (h_a1_cells, .inl (cI, 48, .inl a1_cells))])) (wn := (fun u : Int32 × (Nat → Int32) => [(h_t, .inr (2, [.ref h_t_tally, .ref h_t_holding, .ref h_t_isHeld, .int u.1])), (h_t_holding, .inl (cI, 4096, .inl u.2)), (h_a1, .inr (6, [.ref h_a1_cells, .int a1_size, .int a1_most, .int a1_draw, .int a1_changes])), (h_a1_cells, .inl (cI, 48, .inl a1_cells))])) (wr := []) (va_runV (As := [.ref h_a1]) (rest := []) ⟨hx, hb, hml, hown, hts⟩ (c_X5_lookAt l dC dI cI cJ cC cZ h_t h_t_tally h_t_holding h_t_isHeld h_a1 h_a1_cells s.heap.size t_seenChanges t_holding a1_size a1_most a1_draw a1_changes a1_cells _ hf) (cwV 1 hts gX5_pointCount_X5_lookAt rfl rfl rfl (by decide +kernel) ⟨Nat.le_of_ble_eq_true rfl, Nat.le_of_ble_eq_true rfl⟩) ⟨gz_blind, va_recv hK hP (ci := 2) (q0 := 0) rfl rfl, gz_pre (gz_P_of hP (is := [0, 1, 2, 3]) (wc := [(h_t, .inr (2, [.ref h_t_tally, .ref h_t_holding, .ref h_t_isHeld, .int t_seenChanges])), (h_t_holding, .inl (cI, 4096, .inl t_holding)), (h_a1, .inr (6, [.ref h_a1_cells, .int a1_size, .int a1_most, .int a1_draw, .int a1_changes])), (h_a1_cells, .inl (cI, 48, .inl a1_cells))]) rfl) hK (hD.sub [0, 1, 2, 3] (by decide) rfl) gz_N0⟩ rfl rfl hl.1 rfl (lv_room (Nat.le_of_ble_eq_true rfl)) dX5_pointCount_2 ⟨Nat.le_refl _, Nat.le_refl _⟩) hP hD hS hA [0, 1, 2, 3] [] [0, 1, 2, 3] rfl rfl (by decide) (by decide) (fun _ => rfl) (by decide) (fun  u H locs hf hP hD hS => ?_)
  obtain ⟨y1, y2⟩ := u
  have hP : va_P (dC, dI) vwCl [(h_t, .inr (2, [.ref h_t_tally, .ref h_t_holding, .ref h_t_isHeld, .int y1])), (h_t_holding, .inl (cI, 4096, .inl y2)), (h_a1, .inr (6, [.ref h_a1_cells, .int a1_size, .int a1_most, .int a1_draw, .int a1_changes])), (h_a1_cells, .inl (cI, 48, .inl a1_cells))] H := hP
  have hD : va_D A [(h_t, .inr (2, [.ref h_t_tally, .ref h_t_holding, .ref h_t_isHeld, .int y1])), (h_t_holding, .inl (cI, 4096, .inl y2)), (h_a1, .inr (6, [.ref h_a1_cells, .int a1_size, .int a1_most, .int a1_draw, .int a1_changes])), (h_a1_cells, .inl (cI, 48, .inl a1_cells))] := hD
  refine lv_aload_n hx hb dX5_pointCount_5 rfl (lv_at hl 1 rfl) ?_
  refine gz_iR (va_runV (As := []) (rest := []) ⟨hx, hb, hml, hown, hts⟩ (c_X9_all l dC dI cI cJ cC cZ h_a1 h_a1_cells H.size a1_size a1_most a1_draw a1_changes _ hf) (cwV 0 hts gX5_pointCount_X9_all rfl rfl rfl (by decide +kernel) ⟨Nat.le_of_ble_eq_true rfl, Nat.le_of_ble_eq_true rfl⟩) ⟨gz_blind, va_recv hK hP (ci := 6) (q0 := 2) rfl rfl, gz_pre (gz_P_of hP (is := [2]) (wc := [(h_a1, .inr (6, [.ref h_a1_cells, .int a1_size, .int a1_most, .int a1_draw, .int a1_changes]))]) rfl) hK (hD.sub [2] (by decide) rfl) gz_N0⟩ rfl rfl hl.1 rfl (lv_room (Nat.le_of_ble_eq_true rfl)) dX5_pointCount_6 ⟨Nat.le_refl _, Nat.le_refl _⟩) hP hD hS hA [2] rfl (fun r3 H locs hf hP hS => ?_)
  refine lv_istore_n (lv' := [(2, .int r3), (0, .ref h_t), (1, .ref h_a1)]) hx hb dX5_pointCount_9 rfl hl (by decide) rfl (fun ls hl => ?_)
  refine lv_iconst (v := (0 : Int32)) hx hb dX5_pointCount_10 (by decide) ?_
  refine lv_istore_n (lv' := [(3, .int (0 : Int32)), (2, .int r3), (0, .ref h_t), (1, .ref h_a1)]) hx hb dX5_pointCount_11 rfl hl (by decide) rfl (fun ls hl => ?_)
  refine lv_iconst (v := (0 : Int32)) hx hb dX5_pointCount_12 (by decide) ?_
  refine lv_istore (lv' := [(4, .int (0 : Int32)), (3, .int (0 : Int32)), (2, .int r3), (0, .ref h_t), (1, .ref h_a1)]) hx hb dX5_pointCount_13 hl (by decide) rfl (fun ls hl => ?_)
  obtain ⟨n, hf⟩ := hf
  exact L15 r3 y1 y2 n (0 : Int32) (0 : Int32) _ _ _ hf hP hD hS (lv_sub hl [3, 2, 1, 0] rfl)
abbrev rm_X5_valuesOf : Room := { frames := 4, cells := 0, slots := 0, locals := 96 }
set_option maxHeartbeats 4000000 in
set_option maxRecDepth 100000 in
theorem c_X5_valuesOf (l : Launch) (dC : Nat → ClassId) (dI : Nat → Nat → Nat) (cI cJ cC cZ : ClassId) (h_t h_t_tally h_t_holding h_t_isHeld h_a1 h_a1_cells : Nat) (sz : Nat) (t_seenChanges : Int32) (t_holding : Nat → Int32) (a1_size : Int32) (a1_most : Int32) (a1_draw : Int32) (a1_changes : Int32) (a1_cells : Nat → Int32) (x2 : Int32) (Q : Int32 → Int32 → (Nat → Int32) → Prop) (hw : p_X5_valuesOf t_seenChanges t_holding a1_size a1_most a1_changes a1_cells x2 Q) : Met l yX5_valuesOf wsX5_valuesOf rm_X5_valuesOf (va_Pc [.ref h_t, .ref h_a1, .int x2] (gz_B (dC, dI) (gz_T cI cJ cC cZ) [] sz [(h_t, .inr (2, [.ref h_t_tally, .ref h_t_holding, .ref h_t_isHeld, .int t_seenChanges])), (h_t_holding, .inl (cI, 4096, .inl t_holding)), (h_a1, .inr (6, [.ref h_a1_cells, .int a1_size, .int a1_most, .int a1_draw, .int a1_changes])), (h_a1_cells, .inl (cI, 48, .inl a1_cells))])) (va_Qi (fun (r : Int32) (u : Int32 × (Nat → Int32)) => Q r u.1 u.2) (fun u t => gz_E (dC, dI) (gz_T cI cJ cC cZ) (va_A [(h_t, .inr (2, [.ref h_t_tally, .ref h_t_holding, .ref h_t_isHeld, .int t_seenChanges])), (h_t_holding, .inl (cI, 4096, .inl t_holding)), (h_a1, .inr (6, [.ref h_a1_cells, .int a1_size, .int a1_most, .int a1_draw, .int a1_changes])), (h_a1_cells, .inl (cI, 48, .inl a1_cells))] sz) [(h_t, .inr (2, [.ref h_t_tally, .ref h_t_holding, .ref h_t_isHeld, .int u.1])), (h_t_holding, .inl (cI, 4096, .inl u.2)), (h_a1, .inr (6, [.ref h_a1_cells, .int a1_size, .int a1_most, .int a1_draw, .int a1_changes])), (h_a1_cells, .inl (cI, 48, .inl a1_cells))] t) (va_A [(h_t, .inr (2, [.ref h_t_tally, .ref h_t_holding, .ref h_t_isHeld, .int t_seenChanges])), (h_t_holding, .inl (cI, 4096, .inl t_holding)), (h_a1, .inr (6, [.ref h_a1_cells, .int a1_size, .int a1_most, .int a1_draw, .int a1_changes])), (h_a1_cells, .inl (cI, 48, .inl a1_cells))] sz)) 0 0 (va_A [(h_t, .inr (2, [.ref h_t_tally, .ref h_t_holding, .ref h_t_isHeld, .int t_seenChanges])), (h_t_holding, .inl (cI, 4096, .inl t_holding)), (h_a1, .inr (6, [.ref h_a1_cells, .int a1_size, .int a1_most, .int a1_draw, .int a1_changes])), (h_a1_cells, .inl (cI, 48, .inl a1_cells))] sz) := by
  refine gz_mi (cc := cX5_valuesOf) (maxL := 6) (plainFor_of_name (by decide +kernel)) rfl (Nat.le_of_ble_eq_true rfl) ?_
  intro p e s m below meth c A QQ ls hx hb hml hown0 hts hK hN hA hP hD hS hl ret
  have hown : s.vm.findClass RX5 = some m.cls := hown0
  have hl : lv_has ls 6 [(0, .ref h_t), (1, .ref h_a1), (2, .int x2)] := hl
  have q0 := hts (.fieldLink RX5 15 "DarkShadows$Search" "holding" "[I") (List.mem_cons_of_mem _ (List.mem_append_left _ (List.mem_append_left _ (List.mem_append_left _ (List.mem_of_getElem? (i := 0) rfl)))))
  have hinX5 : ∀ w ∈ wsX50, w ∈ wsX5_valuesOf := fun w h => List.mem_cons_of_mem _ (List.mem_append_left _ (List.mem_append_right _ h))
  have L16 : ∀ (x3 : Int32) (t_seenChanges : Int32) (t_holding : Nat → Int32) (n : Nat) (x4 : Int32) (x5 : Int32) (H : Heap) (locs : List Loc) (ls : Array Slot), gi2 (p_X5_valuesOf_16 t_seenChanges t_holding x2 x3 Q) n x4 x5 → va_P (dC, dI) vwCl [(h_t, .inr (2, [.ref h_t_tally, .ref h_t_holding, .ref h_t_isHeld, .int t_seenChanges])), (h_t_holding, .inl (cI, 4096, .inl t_holding)), (h_a1, .inr (6, [.ref h_a1_cells, .int a1_size, .int a1_most, .int a1_draw, .int a1_changes])), (h_a1_cells, .inl (cI, 48, .inl a1_cells))] H → va_D A [(h_t, .inr (2, [.ref h_t_tally, .ref h_t_holding, .ref h_t_isHeld, .int t_seenChanges])), (h_t_holding, .inl (cI, 4096, .inl t_holding)), (h_a1, .inr (6, [.ref h_a1_cells, .int a1_size, .int a1_most, .int a1_draw, .int a1_changes])), (h_a1_cells, .inl (cI, 48, .inl a1_cells))] → va_S A s.heap H locs → lv_has ls 6 [(0, .ref h_t), (2, .int x2), (3, .int x3), (4, .int x4), (5, .int x5)] → W p l e rm_X5_valuesOf s m [.ref h_t, .ref h_a1, .int x2].toArray below meth c H locs 0 0 QQ (F0 m 16 ls []) := by
    intro x3 t_seenChanges t_holding n
    induction n with
    | zero => intro x4 x5 H locs ls hf; exact False.elim hf
    | succ n ih16 =>
      generalize hK16 : gi2 (p_X5_valuesOf_16 t_seenChanges t_holding x2 x3 Q) n = K16 at ih16
      have L48 : ∀ (x4 : Int32) (x5 : Int32) (H : Heap) (locs : List Loc) (ls : Array Slot), p_X5_valuesOf_48 x4 x5 K16 → va_P (dC, dI) vwCl [(h_t, .inr (2, [.ref h_t_tally, .ref h_t_holding, .ref h_t_isHeld, .int t_seenChanges])), (h_t_holding, .inl (cI, 4096, .inl t_holding)), (h_a1, .inr (6, [.ref h_a1_cells, .int a1_size, .int a1_most, .int a1_draw, .int a1_changes])), (h_a1_cells, .inl (cI, 48, .inl a1_cells))] H → va_D A [(h_t, .inr (2, [.ref h_t_tally, .ref h_t_holding, .ref h_t_isHeld, .int t_seenChanges])), (h_t_holding, .inl (cI, 4096, .inl t_holding)), (h_a1, .inr (6, [.ref h_a1_cells, .int a1_size, .int a1_most, .int a1_draw, .int a1_changes])), (h_a1_cells, .inl (cI, 48, .inl a1_cells))] → va_S A s.heap H locs → lv_has ls 6 [(0, .ref h_t), (2, .int x2), (3, .int x3), (4, .int x4), (5, .int x5)] → W p l e rm_X5_valuesOf s m [.ref h_t, .ref h_a1, .int x2].toArray below meth c H locs 0 0 QQ (F0 m 48 ls []) := by
        intro x4 x5 H locs ls hf hP hD hS hl
        refine lv_iinc (v := (x5 + (1 : Int32))) (lv' := [(5, .int (x5 + (1 : Int32))), (0, .ref h_t), (2, .int x2), (3, .int x3), (4, .int x4)]) hx hb dX5_valuesOf_48 hl (k := 4) rfl rfl (by decide) rfl (fun ls hl => ?_)
        refine lv_goto (tgt := 16) hx hb dX5_valuesOf_51 (by decide) ?_
        exact ih16 x4 (x5 + (1 : Int32)) _ _ _ hf hP hD hS (lv_sub hl [1, 2, 3, 4, 0] rfl)
      intro x4 x5 H locs ls hf hP hD hS hl
      have hf : p_X5_valuesOf_16 t_seenChanges t_holding x2 x3 Q (gi2 (p_X5_valuesOf_16 t_seenChanges t_holding x2 x3 Q) n) x4 x5 := hf
      rw [hK16] at hf
      refine lv_iload hx hb dX5_valuesOf_16 (lv_at hl 4 rfl) ?_
      refine lv_sipush (v := (4095 : Int32)) hx hb dX5_valuesOf_18 (by decide) ?_
      refine lv_icmp_gt (tgt := 54) hx hb dX5_valuesOf_21 (by decide) (fun hc7 => ?_) (fun hc7 => ?_)
      · have hf := hf.1 hc7
        refine lv_iload hx hb dX5_valuesOf_54 (lv_at hl 3 rfl) ?_
        exact ret _ _ _ _ x4 (t_seenChanges, t_holding) hf hP hD hS dX5_valuesOf_56
      · have hf := hf.2 hc7
        refine lv_aload_n hx hb dX5_valuesOf_24 rfl (lv_at hl 0 rfl) ?_
        refine va_get (D := (dC, dI)) (ci := 2) (v := .ref h_t_holding) (C := RX5) (T := TX5) (N := 4) hx hb hts hinX5 hown hK hP 0 rfl rfl 1 (by decide) q0 (fun _ h9 => h9) rfl dX5_valuesOf_25 ?_
        refine lv_iload hx hb dX5_valuesOf_28 (lv_at hl 4 rfl) ?_
        obtain ⟨hb4, hf⟩ := hf
        refine va_iald hx hb hK hP 1 0 rfl rfl hb4 dX5_valuesOf_30 ?_
        refine lv_iload_n hx hb dX5_valuesOf_31 rfl (lv_at hl 2 rfl) ?_
        refine lv_icmp_ne (tgt := 48) hx hb dX5_valuesOf_32 (by decide) (fun hc6 => ?_) (fun hc6 => ?_)
        · have hf := hf.2 hc6
          exact L48 x4 x5 _ _ _ hf hP hD hS hl
        · have hf := hf.1 hc6
          refine lv_iload hx hb dX5_valuesOf_35 (lv_at hl 3 rfl) ?_
          refine lv_iconst (v := (1 : Int32)) hx hb dX5_valuesOf_37 (by decide) ?_
          refine lv_iload hx hb dX5_valuesOf_38 (lv_at hl 4 rfl) ?_
          refine lv_iload_n hx hb dX5_valuesOf_40 rfl (lv_at hl 1 rfl) ?_
          refine gz_i0 (va_runS (As := [.int x5, .int x2]) (rest := [.int (1 : Int32), .int x4]) ⟨hx, hb, hml, hown, hts⟩ (c_X3_valueOf l dC dI cI cJ cC cZ H.size x5 x2 _ hf) (va_cwS 2 hts gX5_valuesOf_X3_valueOf rfl rfl rfl (by decide +kernel) ⟨Nat.le_of_ble_eq_true rfl, Nat.le_of_ble_eq_true rfl⟩) ⟨gz_blind, gz_pre (gz_P_of hP (is := []) (wc := []) rfl) hK (hD.sub [] (by decide) rfl) gz_N0⟩ rfl rfl hl.1 rfl (lv_room (Nat.le_of_ble_eq_true rfl)) dX5_valuesOf_41 ⟨Nat.le_refl _, Nat.le_refl _⟩) hP hD hS hA (fun r5 H locs hf hP hS => ?_)
          refine lv_ishl hx hb dX5_valuesOf_44 ?_
          refine lv_ior hx hb dX5_valuesOf_45 ?_
          refine lv_istore (lv' := [(4, .int (x4 ||| ((1 : Int32) <<< (r5 &&& 31)))), (0, .ref h_t), (2, .int x2), (3, .int x3), (5, .int x5)]) hx hb dX5_valuesOf_46 hl (by decide) rfl (fun ls hl => ?_)
          exact L48 (x4 ||| ((1 : Int32) <<< (r5 &&& 31))) x5 _ _ _ hf hP hD hS (lv_sub hl [1, 2, 3, 0, 4] rfl)
  have hf := hw
  refine lv_aload_n hx hb dX5_valuesOf_0 rfl (lv_at hl 0 rfl) ?_
  refine lv_aload_n hx hb dX5_valuesOf_1 rfl (lv_at hl 1 rfl) ?_
  refine gz_v (W1 := (fun u : Int32 × (Nat → Int32) => [(h_t, .inr (2, [.ref h_t_tally, .ref h_t_holding, .ref h_t_isHeld, .int u.1])), (h_t_holding, .inl (cI, 4096, .inl u.2)), (h_a1, .inr (6, [.ref h_a1_cells, .int a1_size, .int a1_most, .int a1_draw, .int a1_changes])), (h_a1_cells, .inl (cI, 48, .inl a1_cells))])) (wn := (fun u : Int32 × (Nat → Int32) => [(h_t, .inr (2, [.ref h_t_tally, .ref h_t_holding, .ref h_t_isHeld, .int u.1])), (h_t_holding, .inl (cI, 4096, .inl u.2)), (h_a1, .inr (6, [.ref h_a1_cells, .int a1_size, .int a1_most, .int a1_draw, .int a1_changes])), (h_a1_cells, .inl (cI, 48, .inl a1_cells))])) (wr := []) (va_runV (As := [.ref h_a1]) (rest := []) ⟨hx, hb, hml, hown, hts⟩ (c_X5_lookAt l dC dI cI cJ cC cZ h_t h_t_tally h_t_holding h_t_isHeld h_a1 h_a1_cells s.heap.size t_seenChanges t_holding a1_size a1_most a1_draw a1_changes a1_cells _ hf) (cwV 1 hts gX5_valuesOf_X5_lookAt rfl rfl rfl (by decide +kernel) ⟨Nat.le_of_ble_eq_true rfl, Nat.le_of_ble_eq_true rfl⟩) ⟨gz_blind, va_recv hK hP (ci := 2) (q0 := 0) rfl rfl, gz_pre (gz_P_of hP (is := [0, 1, 2, 3]) (wc := [(h_t, .inr (2, [.ref h_t_tally, .ref h_t_holding, .ref h_t_isHeld, .int t_seenChanges])), (h_t_holding, .inl (cI, 4096, .inl t_holding)), (h_a1, .inr (6, [.ref h_a1_cells, .int a1_size, .int a1_most, .int a1_draw, .int a1_changes])), (h_a1_cells, .inl (cI, 48, .inl a1_cells))]) rfl) hK (hD.sub [0, 1, 2, 3] (by decide) rfl) gz_N0⟩ rfl rfl hl.1 rfl (lv_room (Nat.le_of_ble_eq_true rfl)) dX5_valuesOf_2 ⟨Nat.le_refl _, Nat.le_refl _⟩) hP hD hS hA [0, 1, 2, 3] [] [0, 1, 2, 3] rfl rfl (by decide) (by decide) (fun _ => rfl) (by decide) (fun  u H locs hf hP hD hS => ?_)
  obtain ⟨y1, y2⟩ := u
  have hP : va_P (dC, dI) vwCl [(h_t, .inr (2, [.ref h_t_tally, .ref h_t_holding, .ref h_t_isHeld, .int y1])), (h_t_holding, .inl (cI, 4096, .inl y2)), (h_a1, .inr (6, [.ref h_a1_cells, .int a1_size, .int a1_most, .int a1_draw, .int a1_changes])), (h_a1_cells, .inl (cI, 48, .inl a1_cells))] H := hP
  have hD : va_D A [(h_t, .inr (2, [.ref h_t_tally, .ref h_t_holding, .ref h_t_isHeld, .int y1])), (h_t_holding, .inl (cI, 4096, .inl y2)), (h_a1, .inr (6, [.ref h_a1_cells, .int a1_size, .int a1_most, .int a1_draw, .int a1_changes])), (h_a1_cells, .inl (cI, 48, .inl a1_cells))] := hD
  refine lv_aload_n hx hb dX5_valuesOf_5 rfl (lv_at hl 1 rfl) ?_
  refine gz_iR (va_runV (As := []) (rest := []) ⟨hx, hb, hml, hown, hts⟩ (c_X9_all l dC dI cI cJ cC cZ h_a1 h_a1_cells H.size a1_size a1_most a1_draw a1_changes _ hf) (cwV 0 hts gX5_valuesOf_X9_all rfl rfl rfl (by decide +kernel) ⟨Nat.le_of_ble_eq_true rfl, Nat.le_of_ble_eq_true rfl⟩) ⟨gz_blind, va_recv hK hP (ci := 6) (q0 := 2) rfl rfl, gz_pre (gz_P_of hP (is := [2]) (wc := [(h_a1, .inr (6, [.ref h_a1_cells, .int a1_size, .int a1_most, .int a1_draw, .int a1_changes]))]) rfl) hK (hD.sub [2] (by decide) rfl) gz_N0⟩ rfl rfl hl.1 rfl (lv_room (Nat.le_of_ble_eq_true rfl)) dX5_valuesOf_6 ⟨Nat.le_refl _, Nat.le_refl _⟩) hP hD hS hA [2] rfl (fun r3 H locs hf hP hS => ?_)
  refine lv_istore_n (lv' := [(3, .int r3), (0, .ref h_t), (1, .ref h_a1), (2, .int x2)]) hx hb dX5_valuesOf_9 rfl hl (by decide) rfl (fun ls hl => ?_)
  refine lv_iconst (v := (0 : Int32)) hx hb dX5_valuesOf_10 (by decide) ?_
  refine lv_istore (lv' := [(4, .int (0 : Int32)), (3, .int r3), (0, .ref h_t), (1, .ref h_a1), (2, .int x2)]) hx hb dX5_valuesOf_11 hl (by decide) rfl (fun ls hl => ?_)
  refine lv_iconst (v := (0 : Int32)) hx hb dX5_valuesOf_13 (by decide) ?_
  refine lv_istore (lv' := [(5, .int (0 : Int32)), (4, .int (0 : Int32)), (3, .int r3), (0, .ref h_t), (1, .ref h_a1), (2, .int x2)]) hx hb dX5_valuesOf_14 hl (by decide) rfl (fun ls hl => ?_)
  obtain ⟨n, hf⟩ := hf
  exact L16 r3 y1 y2 n (0 : Int32) (0 : Int32) _ _ _ hf hP hD hS (lv_sub hl [3, 5, 2, 1, 0] rfl)
abbrev rm_X5_gapsOf : Room := { frames := 4, cells := 0, slots := 0, locals := 96 }
set_option maxHeartbeats 4000000 in
set_option maxRecDepth 100000 in
theorem c_X5_gapsOf (l : Launch) (dC : Nat → ClassId) (dI : Nat → Nat → Nat) (cI cJ cC cZ : ClassId) (h_t h_t_tally h_t_holding h_t_isHeld h_a1 h_a1_cells : Nat) (sz : Nat) (t_seenChanges : Int32) (t_holding : Nat → Int32) (a1_size : Int32) (a1_most : Int32) (a1_draw : Int32) (a1_changes : Int32) (a1_cells : Nat → Int32) (x2 : Int32) (x3 : Int32) (Q : Int32 → Int32 → (Nat → Int32) → Prop) (hw : p_X5_gapsOf t_seenChanges t_holding a1_size a1_most a1_changes a1_cells x2 x3 Q) : Met l yX5_gapsOf wsX5_gapsOf rm_X5_gapsOf (va_Pc [.ref h_t, .ref h_a1, .int x2, .int x3] (gz_B (dC, dI) (gz_T cI cJ cC cZ) [] sz [(h_t, .inr (2, [.ref h_t_tally, .ref h_t_holding, .ref h_t_isHeld, .int t_seenChanges])), (h_t_holding, .inl (cI, 4096, .inl t_holding)), (h_a1, .inr (6, [.ref h_a1_cells, .int a1_size, .int a1_most, .int a1_draw, .int a1_changes])), (h_a1_cells, .inl (cI, 48, .inl a1_cells))])) (va_Qi (fun (r : Int32) (u : Int32 × (Nat → Int32)) => Q r u.1 u.2) (fun u t => gz_E (dC, dI) (gz_T cI cJ cC cZ) (va_A [(h_t, .inr (2, [.ref h_t_tally, .ref h_t_holding, .ref h_t_isHeld, .int t_seenChanges])), (h_t_holding, .inl (cI, 4096, .inl t_holding)), (h_a1, .inr (6, [.ref h_a1_cells, .int a1_size, .int a1_most, .int a1_draw, .int a1_changes])), (h_a1_cells, .inl (cI, 48, .inl a1_cells))] sz) [(h_t, .inr (2, [.ref h_t_tally, .ref h_t_holding, .ref h_t_isHeld, .int u.1])), (h_t_holding, .inl (cI, 4096, .inl u.2)), (h_a1, .inr (6, [.ref h_a1_cells, .int a1_size, .int a1_most, .int a1_draw, .int a1_changes])), (h_a1_cells, .inl (cI, 48, .inl a1_cells))] t) (va_A [(h_t, .inr (2, [.ref h_t_tally, .ref h_t_holding, .ref h_t_isHeld, .int t_seenChanges])), (h_t_holding, .inl (cI, 4096, .inl t_holding)), (h_a1, .inr (6, [.ref h_a1_cells, .int a1_size, .int a1_most, .int a1_draw, .int a1_changes])), (h_a1_cells, .inl (cI, 48, .inl a1_cells))] sz)) 0 0 (va_A [(h_t, .inr (2, [.ref h_t_tally, .ref h_t_holding, .ref h_t_isHeld, .int t_seenChanges])), (h_t_holding, .inl (cI, 4096, .inl t_holding)), (h_a1, .inr (6, [.ref h_a1_cells, .int a1_size, .int a1_most, .int a1_draw, .int a1_changes])), (h_a1_cells, .inl (cI, 48, .inl a1_cells))] sz) := by
  refine gz_mi (cc := cX5_gapsOf) (maxL := 7) (plainFor_of_name (by decide +kernel)) rfl (Nat.le_of_ble_eq_true rfl) ?_
  intro p e s m below meth c A QQ ls hx hb hml hown0 hts hK hN hA hP hD hS hl ret
  have hown : s.vm.findClass RX5 = some m.cls := hown0
  have hl : lv_has ls 7 [(0, .ref h_t), (1, .ref h_a1), (2, .int x2), (3, .int x3)] := hl
  have q0 := hts (.fieldLink RX5 15 "DarkShadows$Search" "holding" "[I") (List.mem_cons_of_mem _ (List.mem_append_left _ (List.mem_append_left _ (List.mem_append_left _ (List.mem_of_getElem? (i := 0) rfl)))))
  have hinX5 : ∀ w ∈ wsX50, w ∈ wsX5_gapsOf := fun w h => List.mem_cons_of_mem _ (List.mem_append_left _ (List.mem_append_right _ h))
  have L17 : ∀ (x4 : Int32) (t_seenChanges : Int32) (t_holding : Nat → Int32) (n : Nat) (x5 : Int32) (x6 : Int32) (H : Heap) (locs : List Loc) (ls : Array Slot), gi2 (p_X5_gapsOf_17 t_seenChanges t_holding x2 x3 x4 Q) n x5 x6 → va_P (dC, dI) vwCl [(h_t, .inr (2, [.ref h_t_tally, .ref h_t_holding, .ref h_t_isHeld, .int t_seenChanges])), (h_t_holding, .inl (cI, 4096, .inl t_holding)), (h_a1, .inr (6, [.ref h_a1_cells, .int a1_size, .int a1_most, .int a1_draw, .int a1_changes])), (h_a1_cells, .inl (cI, 48, .inl a1_cells))] H → va_D A [(h_t, .inr (2, [.ref h_t_tally, .ref h_t_holding, .ref h_t_isHeld, .int t_seenChanges])), (h_t_holding, .inl (cI, 4096, .inl t_holding)), (h_a1, .inr (6, [.ref h_a1_cells, .int a1_size, .int a1_most, .int a1_draw, .int a1_changes])), (h_a1_cells, .inl (cI, 48, .inl a1_cells))] → va_S A s.heap H locs → lv_has ls 7 [(0, .ref h_t), (2, .int x2), (3, .int x3), (4, .int x4), (5, .int x5), (6, .int x6)] → W p l e rm_X5_gapsOf s m [.ref h_t, .ref h_a1, .int x2, .int x3].toArray below meth c H locs 0 0 QQ (F0 m 17 ls []) := by
    intro x4 t_seenChanges t_holding n
    induction n with
    | zero => intro x5 x6 H locs ls hf; exact False.elim hf
    | succ n ih17 =>
      generalize hK17 : gi2 (p_X5_gapsOf_17 t_seenChanges t_holding x2 x3 x4 Q) n = K17 at ih17
      have L60 : ∀ (x5 : Int32) (x6 : Int32) (H : Heap) (locs : List Loc) (ls : Array Slot), p_X5_gapsOf_60 x5 x6 K17 → va_P (dC, dI) vwCl [(h_t, .inr (2, [.ref h_t_tally, .ref h_t_holding, .ref h_t_isHeld, .int t_seenChanges])), (h_t_holding, .inl (cI, 4096, .inl t_holding)), (h_a1, .inr (6, [.ref h_a1_cells, .int a1_size, .int a1_most, .int a1_draw, .int a1_changes])), (h_a1_cells, .inl (cI, 48, .inl a1_cells))] H → va_D A [(h_t, .inr (2, [.ref h_t_tally, .ref h_t_holding, .ref h_t_isHeld, .int t_seenChanges])), (h_t_holding, .inl (cI, 4096, .inl t_holding)), (h_a1, .inr (6, [.ref h_a1_cells, .int a1_size, .int a1_most, .int a1_draw, .int a1_changes])), (h_a1_cells, .inl (cI, 48, .inl a1_cells))] → va_S A s.heap H locs → lv_has ls 7 [(0, .ref h_t), (2, .int x2), (3, .int x3), (4, .int x4), (5, .int x5), (6, .int x6)] → W p l e rm_X5_gapsOf s m [.ref h_t, .ref h_a1, .int x2, .int x3].toArray below meth c H locs 0 0 QQ (F0 m 60 ls []) := by
        intro x5 x6 H locs ls hf hP hD hS hl
        refine lv_iinc (v := (x6 + (1 : Int32))) (lv' := [(6, .int (x6 + (1 : Int32))), (0, .ref h_t), (2, .int x2), (3, .int x3), (4, .int x4), (5, .int x5)]) hx hb dX5_gapsOf_60 hl (k := 5) rfl rfl (by decide) rfl (fun ls hl => ?_)
        refine lv_goto (tgt := 17) hx hb dX5_gapsOf_63 (by decide) ?_
        exact ih17 x5 (x6 + (1 : Int32)) _ _ _ hf hP hD hS (lv_sub hl [1, 2, 3, 4, 5, 0] rfl)
      intro x5 x6 H locs ls hf hP hD hS hl
      have hf : p_X5_gapsOf_17 t_seenChanges t_holding x2 x3 x4 Q (gi2 (p_X5_gapsOf_17 t_seenChanges t_holding x2 x3 x4 Q) n) x5 x6 := hf
      rw [hK17] at hf
      refine lv_iload hx hb dX5_gapsOf_17 (lv_at hl 5 rfl) ?_
      refine lv_sipush (v := (4095 : Int32)) hx hb dX5_gapsOf_19 (by decide) ?_
      refine lv_icmp_gt (tgt := 66) hx hb dX5_gapsOf_22 (by decide) (fun hc9 => ?_) (fun hc9 => ?_)
      · have hf := hf.1 hc9
        refine lv_iload hx hb dX5_gapsOf_66 (lv_at hl 4 rfl) ?_
        exact ret _ _ _ _ x5 (t_seenChanges, t_holding) hf hP hD hS dX5_gapsOf_68
      · have hf := hf.2 hc9
        refine lv_aload_n hx hb dX5_gapsOf_25 rfl (lv_at hl 0 rfl) ?_
        refine va_get (D := (dC, dI)) (ci := 2) (v := .ref h_t_holding) (C := RX5) (T := TX5) (N := 4) hx hb hts hinX5 hown hK hP 0 rfl rfl 1 (by decide) q0 (fun _ h9 => h9) rfl dX5_gapsOf_26 ?_
        refine lv_iload hx hb dX5_gapsOf_29 (lv_at hl 5 rfl) ?_
        obtain ⟨hb4, hf⟩ := hf
        refine va_iald hx hb hK hP 1 0 rfl rfl hb4 dX5_gapsOf_31 ?_
        refine lv_iload hx hb dX5_gapsOf_32 (lv_at hl 3 rfl) ?_
        refine lv_icmp_ne (tgt := 60) hx hb dX5_gapsOf_34 (by decide) (fun hc8 => ?_) (fun hc8 => ?_)
        · have hf := hf.2 hc8
          exact L60 x5 x6 _ _ _ hf hP hD hS hl
        · have hf := hf.1 hc8
          refine lv_iload hx hb dX5_gapsOf_37 (lv_at hl 4 rfl) ?_
          refine lv_iconst (v := (1 : Int32)) hx hb dX5_gapsOf_39 (by decide) ?_
          refine lv_iload hx hb dX5_gapsOf_40 (lv_at hl 5 rfl) ?_
          refine lv_iload_n hx hb dX5_gapsOf_42 rfl (lv_at hl 2 rfl) ?_
          refine gz_i0 (va_runS (As := [.int x6, .int x3]) (rest := [.int (1 : Int32), .int x5]) ⟨hx, hb, hml, hown, hts⟩ (c_X3_valueOf l dC dI cI cJ cC cZ H.size x6 x3 _ hf) (va_cwS 2 hts gX5_gapsOf_X3_valueOf rfl rfl rfl (by decide +kernel) ⟨Nat.le_of_ble_eq_true rfl, Nat.le_of_ble_eq_true rfl⟩) ⟨gz_blind, gz_pre (gz_P_of hP (is := []) (wc := []) rfl) hK (hD.sub [] (by decide) rfl) gz_N0⟩ rfl rfl hl.1 rfl (lv_room (Nat.le_of_ble_eq_true rfl)) dX5_gapsOf_43 ⟨Nat.le_refl _, Nat.le_refl _⟩) hP hD hS hA (fun r5 H locs hf hP hS => ?_)
          refine lv_iload hx hb dX5_gapsOf_46 (lv_at hl 5 rfl) ?_
          refine lv_iload_n hx hb dX5_gapsOf_48 rfl (lv_at hl 1 rfl) ?_
          refine gz_i0 (va_runS (As := [.int x6, .int x2]) (rest := [.int r5, .int (1 : Int32), .int x5]) ⟨hx, hb, hml, hown, hts⟩ (c_X3_valueOf l dC dI cI cJ cC cZ H.size x6 x2 _ hf) (va_cwS 2 hts gX5_gapsOf_X3_valueOf rfl rfl rfl (by decide +kernel) ⟨Nat.le_of_ble_eq_true rfl, Nat.le_of_ble_eq_true rfl⟩) ⟨gz_blind, gz_pre (gz_P_of hP (is := []) (wc := []) rfl) hK (hD.sub [] (by decide) rfl) gz_N0⟩ rfl rfl hl.1 rfl (lv_room (Nat.le_of_ble_eq_true rfl)) dX5_gapsOf_49 ⟨Nat.le_refl _, Nat.le_refl _⟩) hP hD hS hA (fun r6 H locs hf hP hS => ?_)
          refine lv_isub hx hb dX5_gapsOf_52 ?_
          refine lv_bipush (v := (7 : Int32)) hx hb dX5_gapsOf_53 (by decide) ?_
          refine lv_iadd hx hb dX5_gapsOf_55 ?_
          refine lv_ishl hx hb dX5_gapsOf_56 ?_
          refine lv_ior hx hb dX5_gapsOf_57 ?_
          refine lv_topi (fun z7 ez7 => ?_)
          have hf := hf z7 ez7
          refine lv_istore (lv' := [(5, .int z7), (0, .ref h_t), (2, .int x2), (3, .int x3), (4, .int x4), (6, .int x6)]) hx hb dX5_gapsOf_58 hl (by decide) rfl (fun ls hl => ?_)
          exact L60 z7 x6 _ _ _ hf hP hD hS (lv_sub hl [1, 2, 3, 4, 0, 5] rfl)
  have hf := hw
  refine lv_aload_n hx hb dX5_gapsOf_0 rfl (lv_at hl 0 rfl) ?_
  refine lv_aload_n hx hb dX5_gapsOf_1 rfl (lv_at hl 1 rfl) ?_
  refine gz_v (W1 := (fun u : Int32 × (Nat → Int32) => [(h_t, .inr (2, [.ref h_t_tally, .ref h_t_holding, .ref h_t_isHeld, .int u.1])), (h_t_holding, .inl (cI, 4096, .inl u.2)), (h_a1, .inr (6, [.ref h_a1_cells, .int a1_size, .int a1_most, .int a1_draw, .int a1_changes])), (h_a1_cells, .inl (cI, 48, .inl a1_cells))])) (wn := (fun u : Int32 × (Nat → Int32) => [(h_t, .inr (2, [.ref h_t_tally, .ref h_t_holding, .ref h_t_isHeld, .int u.1])), (h_t_holding, .inl (cI, 4096, .inl u.2)), (h_a1, .inr (6, [.ref h_a1_cells, .int a1_size, .int a1_most, .int a1_draw, .int a1_changes])), (h_a1_cells, .inl (cI, 48, .inl a1_cells))])) (wr := []) (va_runV (As := [.ref h_a1]) (rest := []) ⟨hx, hb, hml, hown, hts⟩ (c_X5_lookAt l dC dI cI cJ cC cZ h_t h_t_tally h_t_holding h_t_isHeld h_a1 h_a1_cells s.heap.size t_seenChanges t_holding a1_size a1_most a1_draw a1_changes a1_cells _ hf) (cwV 1 hts gX5_gapsOf_X5_lookAt rfl rfl rfl (by decide +kernel) ⟨Nat.le_of_ble_eq_true rfl, Nat.le_of_ble_eq_true rfl⟩) ⟨gz_blind, va_recv hK hP (ci := 2) (q0 := 0) rfl rfl, gz_pre (gz_P_of hP (is := [0, 1, 2, 3]) (wc := [(h_t, .inr (2, [.ref h_t_tally, .ref h_t_holding, .ref h_t_isHeld, .int t_seenChanges])), (h_t_holding, .inl (cI, 4096, .inl t_holding)), (h_a1, .inr (6, [.ref h_a1_cells, .int a1_size, .int a1_most, .int a1_draw, .int a1_changes])), (h_a1_cells, .inl (cI, 48, .inl a1_cells))]) rfl) hK (hD.sub [0, 1, 2, 3] (by decide) rfl) gz_N0⟩ rfl rfl hl.1 rfl (lv_room (Nat.le_of_ble_eq_true rfl)) dX5_gapsOf_2 ⟨Nat.le_refl _, Nat.le_refl _⟩) hP hD hS hA [0, 1, 2, 3] [] [0, 1, 2, 3] rfl rfl (by decide) (by decide) (fun _ => rfl) (by decide) (fun  u H locs hf hP hD hS => ?_)
  obtain ⟨y1, y2⟩ := u
  have hP : va_P (dC, dI) vwCl [(h_t, .inr (2, [.ref h_t_tally, .ref h_t_holding, .ref h_t_isHeld, .int y1])), (h_t_holding, .inl (cI, 4096, .inl y2)), (h_a1, .inr (6, [.ref h_a1_cells, .int a1_size, .int a1_most, .int a1_draw, .int a1_changes])), (h_a1_cells, .inl (cI, 48, .inl a1_cells))] H := hP
  have hD : va_D A [(h_t, .inr (2, [.ref h_t_tally, .ref h_t_holding, .ref h_t_isHeld, .int y1])), (h_t_holding, .inl (cI, 4096, .inl y2)), (h_a1, .inr (6, [.ref h_a1_cells, .int a1_size, .int a1_most, .int a1_draw, .int a1_changes])), (h_a1_cells, .inl (cI, 48, .inl a1_cells))] := hD
  refine lv_aload_n hx hb dX5_gapsOf_5 rfl (lv_at hl 1 rfl) ?_
  refine gz_iR (va_runV (As := []) (rest := []) ⟨hx, hb, hml, hown, hts⟩ (c_X9_all l dC dI cI cJ cC cZ h_a1 h_a1_cells H.size a1_size a1_most a1_draw a1_changes _ hf) (cwV 0 hts gX5_gapsOf_X9_all rfl rfl rfl (by decide +kernel) ⟨Nat.le_of_ble_eq_true rfl, Nat.le_of_ble_eq_true rfl⟩) ⟨gz_blind, va_recv hK hP (ci := 6) (q0 := 2) rfl rfl, gz_pre (gz_P_of hP (is := [2]) (wc := [(h_a1, .inr (6, [.ref h_a1_cells, .int a1_size, .int a1_most, .int a1_draw, .int a1_changes]))]) rfl) hK (hD.sub [2] (by decide) rfl) gz_N0⟩ rfl rfl hl.1 rfl (lv_room (Nat.le_of_ble_eq_true rfl)) dX5_gapsOf_6 ⟨Nat.le_refl _, Nat.le_refl _⟩) hP hD hS hA [2] rfl (fun r3 H locs hf hP hS => ?_)
  refine lv_istore (lv' := [(4, .int r3), (0, .ref h_t), (1, .ref h_a1), (2, .int x2), (3, .int x3)]) hx hb dX5_gapsOf_9 hl (by decide) rfl (fun ls hl => ?_)
  refine lv_iconst (v := (0 : Int32)) hx hb dX5_gapsOf_11 (by decide) ?_
  refine lv_istore (lv' := [(5, .int (0 : Int32)), (4, .int r3), (0, .ref h_t), (1, .ref h_a1), (2, .int x2), (3, .int x3)]) hx hb dX5_gapsOf_12 hl (by decide) rfl (fun ls hl => ?_)
  refine lv_iconst (v := (0 : Int32)) hx hb dX5_gapsOf_14 (by decide) ?_
  refine lv_istore (lv' := [(6, .int (0 : Int32)), (5, .int (0 : Int32)), (4, .int r3), (0, .ref h_t), (1, .ref h_a1), (2, .int x2), (3, .int x3)]) hx hb dX5_gapsOf_15 hl (by decide) rfl (fun ls hl => ?_)
  obtain ⟨n, hf⟩ := hf
  exact L17 r3 y1 y2 n (0 : Int32) (0 : Int32) _ _ _ hf hP hD hS (lv_sub hl [3, 5, 6, 2, 1, 0] rfl)
abbrev rm_X5_bestSpare : Room := { frames := 4, cells := 0, slots := 0, locals := 96 }
set_option maxHeartbeats 4000000 in
set_option maxRecDepth 100000 in
theorem c_X5_bestSpare (l : Launch) (dC : Nat → ClassId) (dI : Nat → Nat → Nat) (cI cJ cC cZ : ClassId) (h_t h_t_tally h_t_holding h_t_isHeld h_a1 h_a1_cells : Nat) (sz : Nat) (t_seenChanges : Int32) (t_holding : Nat → Int32) (t_tally : Nat → Int32) (a1_size : Int32) (a1_most : Int32) (a1_draw : Int32) (a1_changes : Int32) (a1_cells : Nat → Int32) (Q : Int32 → Int32 → (Nat → Int32) → (Nat → Int32) → Prop) (hw : p_X5_bestSpare t_seenChanges t_holding t_tally a1_size a1_most a1_changes a1_cells Q) : Met l yX5_bestSpare wsX5_bestSpare rm_X5_bestSpare (va_Pc [.ref h_t, .ref h_a1] (gz_B (dC, dI) (gz_T cI cJ cC cZ) [] sz [(h_t, .inr (2, [.ref h_t_tally, .ref h_t_holding, .ref h_t_isHeld, .int t_seenChanges])), (h_t_holding, .inl (cI, 4096, .inl t_holding)), (h_t_tally, .inl (cI, 8, .inl t_tally)), (h_a1, .inr (6, [.ref h_a1_cells, .int a1_size, .int a1_most, .int a1_draw, .int a1_changes])), (h_a1_cells, .inl (cI, 48, .inl a1_cells))])) (va_Qi (fun (r : Int32) (u : Int32 × (Nat → Int32) × (Nat → Int32)) => Q r u.1 u.2.1 u.2.2) (fun u t => gz_E (dC, dI) (gz_T cI cJ cC cZ) (va_A [(h_t, .inr (2, [.ref h_t_tally, .ref h_t_holding, .ref h_t_isHeld, .int t_seenChanges])), (h_t_holding, .inl (cI, 4096, .inl t_holding)), (h_t_tally, .inl (cI, 8, .inl t_tally)), (h_a1, .inr (6, [.ref h_a1_cells, .int a1_size, .int a1_most, .int a1_draw, .int a1_changes])), (h_a1_cells, .inl (cI, 48, .inl a1_cells))] sz) [(h_t, .inr (2, [.ref h_t_tally, .ref h_t_holding, .ref h_t_isHeld, .int u.1])), (h_t_holding, .inl (cI, 4096, .inl u.2.1)), (h_t_tally, .inl (cI, 8, .inl u.2.2)), (h_a1, .inr (6, [.ref h_a1_cells, .int a1_size, .int a1_most, .int a1_draw, .int a1_changes])), (h_a1_cells, .inl (cI, 48, .inl a1_cells))] t) (va_A [(h_t, .inr (2, [.ref h_t_tally, .ref h_t_holding, .ref h_t_isHeld, .int t_seenChanges])), (h_t_holding, .inl (cI, 4096, .inl t_holding)), (h_t_tally, .inl (cI, 8, .inl t_tally)), (h_a1, .inr (6, [.ref h_a1_cells, .int a1_size, .int a1_most, .int a1_draw, .int a1_changes])), (h_a1_cells, .inl (cI, 48, .inl a1_cells))] sz)) 0 0 (va_A [(h_t, .inr (2, [.ref h_t_tally, .ref h_t_holding, .ref h_t_isHeld, .int t_seenChanges])), (h_t_holding, .inl (cI, 4096, .inl t_holding)), (h_t_tally, .inl (cI, 8, .inl t_tally)), (h_a1, .inr (6, [.ref h_a1_cells, .int a1_size, .int a1_most, .int a1_draw, .int a1_changes])), (h_a1_cells, .inl (cI, 48, .inl a1_cells))] sz) := by
  refine gz_mi (cc := cX5_bestSpare) (maxL := 6) (plainFor_of_name (by decide +kernel)) rfl (Nat.le_of_ble_eq_true rfl) ?_
  intro p e s m below meth c A QQ ls hx hb hml hown0 hts hK hN hA hP hD hS hl ret
  have hown : s.vm.findClass RX5 = some m.cls := hown0
  have hl : lv_has ls 6 [(0, .ref h_t), (1, .ref h_a1)] := hl
  have q0 := hts (.fieldLink RX5 42 "DarkShadows$Told" "size" "I") (List.mem_cons_of_mem _ (List.mem_append_left _ (List.mem_append_left _ (List.mem_append_left _ (List.mem_of_getElem? (i := 0) rfl)))))
  have hinX9 : ∀ w ∈ wsX90, w ∈ wsX5_bestSpare := fun w h => List.mem_cons_of_mem _ (List.mem_append_left _ (List.mem_append_right _ h))
  have q2 := hts (.fieldLink RX5 9 "DarkShadows$Search" "tally" "[I") (List.mem_cons_of_mem _ (List.mem_append_left _ (List.mem_append_left _ (List.mem_append_left _ (List.mem_of_getElem? (i := 1) rfl)))))
  have hinX5 : ∀ w ∈ wsX50, w ∈ wsX5_bestSpare := fun w h => List.mem_cons_of_mem _ (List.mem_append_right _ h)
  have q4 := hts (.fieldLink RX5 15 "DarkShadows$Search" "holding" "[I") (List.mem_cons_of_mem _ (List.mem_append_left _ (List.mem_append_left _ (List.mem_append_left _ (List.mem_of_getElem? (i := 2) rfl)))))
  have L15 : ∀ (x2 : Int32) (t_seenChanges : Int32) (t_holding : Nat → Int32) (n : Nat) (x3 : Int32) (x4 : Int32) (t_tally : Nat → Int32) (H : Heap) (locs : List Loc) (ls : Array Slot), gi3 (p_X5_bestSpare_15 t_seenChanges t_holding a1_size x2 Q) n x3 x4 t_tally → va_P (dC, dI) vwCl [(h_t, .inr (2, [.ref h_t_tally, .ref h_t_holding, .ref h_t_isHeld, .int t_seenChanges])), (h_t_holding, .inl (cI, 4096, .inl t_holding)), (h_t_tally, .inl (cI, 8, .inl t_tally)), (h_a1, .inr (6, [.ref h_a1_cells, .int a1_size, .int a1_most, .int a1_draw, .int a1_changes])), (h_a1_cells, .inl (cI, 48, .inl a1_cells))] H → va_D A [(h_t, .inr (2, [.ref h_t_tally, .ref h_t_holding, .ref h_t_isHeld, .int t_seenChanges])), (h_t_holding, .inl (cI, 4096, .inl t_holding)), (h_t_tally, .inl (cI, 8, .inl t_tally)), (h_a1, .inr (6, [.ref h_a1_cells, .int a1_size, .int a1_most, .int a1_draw, .int a1_changes])), (h_a1_cells, .inl (cI, 48, .inl a1_cells))] → va_S A s.heap H locs → lv_has ls 6 [(0, .ref h_t), (1, .ref h_a1), (2, .int x2), (3, .int x3), (4, .int x4)] → W p l e rm_X5_bestSpare s m [.ref h_t, .ref h_a1].toArray below meth c H locs 0 0 QQ (F0 m 15 ls []) := by
    intro x2 t_seenChanges t_holding n
    induction n with
    | zero => intro x3 x4 t_tally H locs ls hf; exact False.elim hf
    | succ n ih15 =>
      generalize hK15 : gi3 (p_X5_bestSpare_15 t_seenChanges t_holding a1_size x2 Q) n = K15 at ih15
      have L98 : ∀ (x4 : Int32) (t_tally : Nat → Int32) (s0 : Int32) (H : Heap) (locs : List Loc) (ls : Array Slot), p_X5_bestSpare_98 t_tally x4 s0 K15 → va_P (dC, dI) vwCl [(h_t, .inr (2, [.ref h_t_tally, .ref h_t_holding, .ref h_t_isHeld, .int t_seenChanges])), (h_t_holding, .inl (cI, 4096, .inl t_holding)), (h_t_tally, .inl (cI, 8, .inl t_tally)), (h_a1, .inr (6, [.ref h_a1_cells, .int a1_size, .int a1_most, .int a1_draw, .int a1_changes])), (h_a1_cells, .inl (cI, 48, .inl a1_cells))] H → va_D A [(h_t, .inr (2, [.ref h_t_tally, .ref h_t_holding, .ref h_t_isHeld, .int t_seenChanges])), (h_t_holding, .inl (cI, 4096, .inl t_holding)), (h_t_tally, .inl (cI, 8, .inl t_tally)), (h_a1, .inr (6, [.ref h_a1_cells, .int a1_size, .int a1_most, .int a1_draw, .int a1_changes])), (h_a1_cells, .inl (cI, 48, .inl a1_cells))] → va_S A s.heap H locs → lv_has ls 6 [(0, .ref h_t), (1, .ref h_a1), (2, .int x2), (4, .int x4)] → W p l e rm_X5_bestSpare s m [.ref h_t, .ref h_a1].toArray below meth c H locs 0 0 QQ (F0 m 98 ls [.int s0]) := by
        intro x4 t_tally s0 H locs ls hf hP hD hS hl
        refine lv_istore_n (lv' := [(3, .int s0), (0, .ref h_t), (1, .ref h_a1), (2, .int x2), (4, .int x4)]) hx hb dX5_bestSpare_98 rfl hl (by decide) rfl (fun ls hl => ?_)
        refine lv_iinc (v := (x4 + (1 : Int32))) (lv' := [(4, .int (x4 + (1 : Int32))), (3, .int s0), (0, .ref h_t), (1, .ref h_a1), (2, .int x2)]) hx hb dX5_bestSpare_99 hl (k := 4) rfl rfl (by decide) rfl (fun ls hl => ?_)
        refine lv_goto (tgt := 15) hx hb dX5_bestSpare_102 (by decide) ?_
        exact ih15 s0 (x4 + (1 : Int32)) t_tally _ _ _ hf hP hD hS (lv_sub hl [2, 3, 4, 1, 0] rfl)
      have L35 : ∀ (x3 : Int32) (x4 : Int32) (n : Nat) (x5 : Int32) (t_tally : Nat → Int32) (H : Heap) (locs : List Loc) (ls : Array Slot), gi2 (p_X5_bestSpare_35 t_holding x2 x3 x4 K15) n x5 t_tally → va_P (dC, dI) vwCl [(h_t, .inr (2, [.ref h_t_tally, .ref h_t_holding, .ref h_t_isHeld, .int t_seenChanges])), (h_t_holding, .inl (cI, 4096, .inl t_holding)), (h_t_tally, .inl (cI, 8, .inl t_tally)), (h_a1, .inr (6, [.ref h_a1_cells, .int a1_size, .int a1_most, .int a1_draw, .int a1_changes])), (h_a1_cells, .inl (cI, 48, .inl a1_cells))] H → va_D A [(h_t, .inr (2, [.ref h_t_tally, .ref h_t_holding, .ref h_t_isHeld, .int t_seenChanges])), (h_t_holding, .inl (cI, 4096, .inl t_holding)), (h_t_tally, .inl (cI, 8, .inl t_tally)), (h_a1, .inr (6, [.ref h_a1_cells, .int a1_size, .int a1_most, .int a1_draw, .int a1_changes])), (h_a1_cells, .inl (cI, 48, .inl a1_cells))] → va_S A s.heap H locs → lv_has ls 6 [(0, .ref h_t), (1, .ref h_a1), (2, .int x2), (3, .int x3), (4, .int x4), (5, .int x5)] → W p l e rm_X5_bestSpare s m [.ref h_t, .ref h_a1].toArray below meth c H locs 0 0 QQ (F0 m 35 ls []) := by
        intro x3 x4 n
        induction n with
        | zero => intro x5 t_tally H locs ls hf; exact False.elim hf
        | succ n ih35 =>
          generalize hK35 : gi2 (p_X5_bestSpare_35 t_holding x2 x3 x4 K15) n = K35 at ih35
          have L70 : ∀ (x5 : Int32) (t_tally : Nat → Int32) (H : Heap) (locs : List Loc) (ls : Array Slot), p_X5_bestSpare_70 t_tally x5 K35 → va_P (dC, dI) vwCl [(h_t, .inr (2, [.ref h_t_tally, .ref h_t_holding, .ref h_t_isHeld, .int t_seenChanges])), (h_t_holding, .inl (cI, 4096, .inl t_holding)), (h_t_tally, .inl (cI, 8, .inl t_tally)), (h_a1, .inr (6, [.ref h_a1_cells, .int a1_size, .int a1_most, .int a1_draw, .int a1_changes])), (h_a1_cells, .inl (cI, 48, .inl a1_cells))] H → va_D A [(h_t, .inr (2, [.ref h_t_tally, .ref h_t_holding, .ref h_t_isHeld, .int t_seenChanges])), (h_t_holding, .inl (cI, 4096, .inl t_holding)), (h_t_tally, .inl (cI, 8, .inl t_tally)), (h_a1, .inr (6, [.ref h_a1_cells, .int a1_size, .int a1_most, .int a1_draw, .int a1_changes])), (h_a1_cells, .inl (cI, 48, .inl a1_cells))] → va_S A s.heap H locs → lv_has ls 6 [(0, .ref h_t), (1, .ref h_a1), (2, .int x2), (3, .int x3), (4, .int x4), (5, .int x5)] → W p l e rm_X5_bestSpare s m [.ref h_t, .ref h_a1].toArray below meth c H locs 0 0 QQ (F0 m 70 ls []) := by
            intro x5 t_tally H locs ls hf hP hD hS hl
            refine lv_iinc (v := (x5 + (1 : Int32))) (lv' := [(5, .int (x5 + (1 : Int32))), (0, .ref h_t), (1, .ref h_a1), (2, .int x2), (3, .int x3), (4, .int x4)]) hx hb dX5_bestSpare_70 hl (k := 5) rfl rfl (by decide) rfl (fun ls hl => ?_)
            refine lv_goto (tgt := 35) hx hb dX5_bestSpare_73 (by decide) ?_
            exact ih35 (x5 + (1 : Int32)) t_tally _ _ _ hf hP hD hS (lv_sub hl [1, 2, 3, 4, 5, 0] rfl)
          intro x5 t_tally H locs ls hf hP hD hS hl
          have hf : p_X5_bestSpare_35 t_holding x2 x3 x4 K15 (gi2 (p_X5_bestSpare_35 t_holding x2 x3 x4 K15) n) x5 t_tally := hf
          rw [hK35] at hf
          refine lv_iload hx hb dX5_bestSpare_35 (lv_at hl 5 rfl) ?_
          refine lv_sipush (v := (4095 : Int32)) hx hb dX5_bestSpare_37 (by decide) ?_
          refine lv_icmp_gt (tgt := 76) hx hb dX5_bestSpare_40 (by decide) (fun hc12 => ?_) (fun hc12 => ?_)
          · have hf := hf.1 hc12
            refine lv_aload_n hx hb dX5_bestSpare_76 rfl (lv_at hl 0 rfl) ?_
            refine va_get (D := (dC, dI)) (ci := 2) (v := .ref h_t_tally) (C := RX5) (T := TX5) (N := 4) hx hb hts hinX5 hown hK hP 0 rfl rfl 0 (by decide) q2 (fun _ h9 => h9) rfl dX5_bestSpare_77 ?_
            refine lv_iload hx hb dX5_bestSpare_80 (lv_at hl 4 rfl) ?_
            obtain ⟨hb5, hf⟩ := hf
            refine va_iald hx hb hK hP 2 0 rfl rfl hb5 dX5_bestSpare_82 ?_
            refine lv_aload_n hx hb dX5_bestSpare_83 rfl (lv_at hl 0 rfl) ?_
            refine va_get (D := (dC, dI)) (ci := 2) (v := .ref h_t_tally) (C := RX5) (T := TX5) (N := 4) hx hb hts hinX5 hown hK hP 0 rfl rfl 0 (by decide) q2 (fun _ h9 => h9) rfl dX5_bestSpare_84 ?_
            refine lv_iload_n hx hb dX5_bestSpare_87 rfl (lv_at hl 3 rfl) ?_
            obtain ⟨hb6, hf⟩ := hf
            refine va_iald hx hb hK hP 2 0 rfl rfl hb6 dX5_bestSpare_88 ?_
            refine lv_icmp_le (tgt := 97) hx hb dX5_bestSpare_89 (by decide) (fun hc7 => ?_) (fun hc7 => ?_)
            · have hf := hf.1 hc7
              refine lv_iload_n hx hb dX5_bestSpare_97 rfl (lv_at hl 3 rfl) ?_
              exact L98 x4 t_tally x3 _ _ _ hf hP hD hS (lv_sub hl [0, 1, 2, 4] rfl)
            · have hf := hf.2 hc7
              refine lv_iload hx hb dX5_bestSpare_92 (lv_at hl 4 rfl) ?_
              refine lv_goto (tgt := 98) hx hb dX5_bestSpare_94 (by decide) ?_
              exact L98 x4 t_tally x4 _ _ _ hf hP hD hS (lv_sub hl [0, 1, 2, 4] rfl)
          · have hf := hf.2 hc12
            refine lv_aload_n hx hb dX5_bestSpare_43 rfl (lv_at hl 0 rfl) ?_
            refine va_get (D := (dC, dI)) (ci := 2) (v := .ref h_t_holding) (C := RX5) (T := TX5) (N := 4) hx hb hts hinX5 hown hK hP 0 rfl rfl 1 (by decide) q4 (fun _ h9 => h9) rfl dX5_bestSpare_44 ?_
            refine lv_iload hx hb dX5_bestSpare_47 (lv_at hl 5 rfl) ?_
            obtain ⟨hb8, hf⟩ := hf
            refine va_iald hx hb hK hP 1 0 rfl rfl hb8 dX5_bestSpare_49 ?_
            refine lv_iconst (v := (1 : Int32)) hx hb dX5_bestSpare_50 (by decide) ?_
            refine lv_iload hx hb dX5_bestSpare_51 (lv_at hl 4 rfl) ?_
            refine lv_ishl hx hb dX5_bestSpare_53 ?_
            refine lv_ior hx hb dX5_bestSpare_54 ?_
            refine lv_iload_n hx hb dX5_bestSpare_55 rfl (lv_at hl 2 rfl) ?_
            refine lv_icmp_ne (tgt := 70) hx hb dX5_bestSpare_56 (by decide) (fun hc11 => ?_) (fun hc11 => ?_)
            · have hf := hf.2 hc11
              exact L70 x5 t_tally _ _ _ hf hP hD hS hl
            · have hf := hf.1 hc11
              refine lv_aload_n hx hb dX5_bestSpare_59 rfl (lv_at hl 0 rfl) ?_
              refine va_get (D := (dC, dI)) (ci := 2) (v := .ref h_t_tally) (C := RX5) (T := TX5) (N := 4) hx hb hts hinX5 hown hK hP 0 rfl rfl 0 (by decide) q2 (fun _ h9 => h9) rfl dX5_bestSpare_60 ?_
              refine lv_iload hx hb dX5_bestSpare_63 (lv_at hl 4 rfl) ?_
              refine lv_dup2_11 hx hb dX5_bestSpare_65 rfl rfl ?_
              obtain ⟨hb9, hf⟩ := hf
              refine va_iald hx hb hK hP 2 0 rfl rfl hb9 dX5_bestSpare_66 ?_
              refine lv_iconst (v := (1 : Int32)) hx hb dX5_bestSpare_67 (by decide) ?_
              refine lv_iadd hx hb dX5_bestSpare_68 ?_
              obtain ⟨hb10, hf⟩ := hf
              refine va_iast hx hb hK hP hD hS 2 0 rfl rfl hb10 dX5_bestSpare_69 (fun H locs hP hD hS => ?_)
              have hP : va_P (dC, dI) vwCl [(h_t, .inr (2, [.ref h_t_tally, .ref h_t_holding, .ref h_t_isHeld, .int t_seenChanges])), (h_t_holding, .inl (cI, 4096, .inl t_holding)), (h_t_tally, .inl (cI, 8, .inl (upd t_tally x4.toNatClampNeg ((t_tally x4.toNatClampNeg) + (1 : Int32))))), (h_a1, .inr (6, [.ref h_a1_cells, .int a1_size, .int a1_most, .int a1_draw, .int a1_changes])), (h_a1_cells, .inl (cI, 48, .inl a1_cells))] H := hP
              have hD : va_D A [(h_t, .inr (2, [.ref h_t_tally, .ref h_t_holding, .ref h_t_isHeld, .int t_seenChanges])), (h_t_holding, .inl (cI, 4096, .inl t_holding)), (h_t_tally, .inl (cI, 8, .inl (upd t_tally x4.toNatClampNeg ((t_tally x4.toNatClampNeg) + (1 : Int32))))), (h_a1, .inr (6, [.ref h_a1_cells, .int a1_size, .int a1_most, .int a1_draw, .int a1_changes])), (h_a1_cells, .inl (cI, 48, .inl a1_cells))] := hD
              exact L70 x5 (upd t_tally x4.toNatClampNeg ((t_tally x4.toNatClampNeg) + (1 : Int32))) _ _ _ hf hP hD hS hl
      intro x3 x4 t_tally H locs ls hf hP hD hS hl
      have hf : p_X5_bestSpare_15 t_seenChanges t_holding a1_size x2 Q (gi3 (p_X5_bestSpare_15 t_seenChanges t_holding a1_size x2 Q) n) x3 x4 t_tally := hf
      rw [hK15] at hf
      refine lv_iload hx hb dX5_bestSpare_15 (lv_at hl 4 rfl) ?_
      refine lv_aload_n hx hb dX5_bestSpare_17 rfl (lv_at hl 1 rfl) ?_
      refine va_get (D := (dC, dI)) (ci := 6) (v := .int a1_size) (C := RX9) (T := TX9) (N := 5) hx hb hts hinX9 hown hK hP 3 rfl rfl 1 (by decide) q0 (fun _ h9 => h9) rfl dX5_bestSpare_18 ?_
      refine lv_icmp_ge (tgt := 105) hx hb dX5_bestSpare_21 (by decide) (fun hc13 => ?_) (fun hc13 => ?_)
      · have hf := hf.1 hc13
        refine lv_iload_n hx hb dX5_bestSpare_105 rfl (lv_at hl 3 rfl) ?_
        exact ret _ _ _ _ x3 (t_seenChanges, t_holding, t_tally) hf hP hD hS dX5_bestSpare_106
      · have hf := hf.2 hc13
        refine lv_aload_n hx hb dX5_bestSpare_24 rfl (lv_at hl 0 rfl) ?_
        refine va_get (D := (dC, dI)) (ci := 2) (v := .ref h_t_tally) (C := RX5) (T := TX5) (N := 4) hx hb hts hinX5 hown hK hP 0 rfl rfl 0 (by decide) q2 (fun _ h9 => h9) rfl dX5_bestSpare_25 ?_
        refine lv_iload hx hb dX5_bestSpare_28 (lv_at hl 4 rfl) ?_
        refine lv_iconst (v := (0 : Int32)) hx hb dX5_bestSpare_30 (by decide) ?_
        obtain ⟨hb4, hf⟩ := hf
        refine va_iast hx hb hK hP hD hS 2 0 rfl rfl hb4 dX5_bestSpare_31 (fun H locs hP hD hS => ?_)
        have hP : va_P (dC, dI) vwCl [(h_t, .inr (2, [.ref h_t_tally, .ref h_t_holding, .ref h_t_isHeld, .int t_seenChanges])), (h_t_holding, .inl (cI, 4096, .inl t_holding)), (h_t_tally, .inl (cI, 8, .inl (upd t_tally x4.toNatClampNeg (0 : Int32)))), (h_a1, .inr (6, [.ref h_a1_cells, .int a1_size, .int a1_most, .int a1_draw, .int a1_changes])), (h_a1_cells, .inl (cI, 48, .inl a1_cells))] H := hP
        have hD : va_D A [(h_t, .inr (2, [.ref h_t_tally, .ref h_t_holding, .ref h_t_isHeld, .int t_seenChanges])), (h_t_holding, .inl (cI, 4096, .inl t_holding)), (h_t_tally, .inl (cI, 8, .inl (upd t_tally x4.toNatClampNeg (0 : Int32)))), (h_a1, .inr (6, [.ref h_a1_cells, .int a1_size, .int a1_most, .int a1_draw, .int a1_changes])), (h_a1_cells, .inl (cI, 48, .inl a1_cells))] := hD
        refine lv_iconst (v := (0 : Int32)) hx hb dX5_bestSpare_32 (by decide) ?_
        refine lv_istore (lv' := [(5, .int (0 : Int32)), (0, .ref h_t), (1, .ref h_a1), (2, .int x2), (3, .int x3), (4, .int x4)]) hx hb dX5_bestSpare_33 hl (by decide) rfl (fun ls hl => ?_)
        obtain ⟨n, hf⟩ := hf
        exact L35 x3 x4 n (0 : Int32) (upd t_tally x4.toNatClampNeg (0 : Int32)) _ _ _ hf hP hD hS (lv_sub hl [1, 2, 3, 4, 5, 0] rfl)
  have hf := hw
  refine lv_aload_n hx hb dX5_bestSpare_0 rfl (lv_at hl 0 rfl) ?_
  refine lv_aload_n hx hb dX5_bestSpare_1 rfl (lv_at hl 1 rfl) ?_
  refine gz_v (W1 := (fun u : Int32 × (Nat → Int32) => [(h_t, .inr (2, [.ref h_t_tally, .ref h_t_holding, .ref h_t_isHeld, .int u.1])), (h_t_holding, .inl (cI, 4096, .inl u.2)), (h_a1, .inr (6, [.ref h_a1_cells, .int a1_size, .int a1_most, .int a1_draw, .int a1_changes])), (h_a1_cells, .inl (cI, 48, .inl a1_cells))])) (wn := (fun u : Int32 × (Nat → Int32) => [(h_t, .inr (2, [.ref h_t_tally, .ref h_t_holding, .ref h_t_isHeld, .int u.1])), (h_t_holding, .inl (cI, 4096, .inl u.2)), (h_t_tally, .inl (cI, 8, .inl t_tally)), (h_a1, .inr (6, [.ref h_a1_cells, .int a1_size, .int a1_most, .int a1_draw, .int a1_changes])), (h_a1_cells, .inl (cI, 48, .inl a1_cells))])) (wr := [(h_t_tally, .inl (cI, 8, .inl t_tally))]) (va_runV (As := [.ref h_a1]) (rest := []) ⟨hx, hb, hml, hown, hts⟩ (c_X5_lookAt l dC dI cI cJ cC cZ h_t h_t_tally h_t_holding h_t_isHeld h_a1 h_a1_cells s.heap.size t_seenChanges t_holding a1_size a1_most a1_draw a1_changes a1_cells _ hf) (cwV 1 hts gX5_bestSpare_X5_lookAt rfl rfl rfl (by decide +kernel) ⟨Nat.le_of_ble_eq_true rfl, Nat.le_of_ble_eq_true rfl⟩) ⟨gz_blind, va_recv hK hP (ci := 2) (q0 := 0) rfl rfl, gz_pre (gz_P_of hP (is := [0, 1, 3, 4]) (wc := [(h_t, .inr (2, [.ref h_t_tally, .ref h_t_holding, .ref h_t_isHeld, .int t_seenChanges])), (h_t_holding, .inl (cI, 4096, .inl t_holding)), (h_a1, .inr (6, [.ref h_a1_cells, .int a1_size, .int a1_most, .int a1_draw, .int a1_changes])), (h_a1_cells, .inl (cI, 48, .inl a1_cells))]) rfl) hK (hD.sub [0, 1, 3, 4] (by decide) rfl) gz_N0⟩ rfl rfl hl.1 rfl (lv_room (Nat.le_of_ble_eq_true rfl)) dX5_bestSpare_2 ⟨Nat.le_refl _, Nat.le_refl _⟩) hP hD hS hA [0, 1, 3, 4] [2] [1, 2, 0, 3, 4] rfl rfl (by decide) (by decide) (fun _ => rfl) (by decide) (fun  u H locs hf hP hD hS => ?_)
  obtain ⟨y1, y2⟩ := u
  have hP : va_P (dC, dI) vwCl [(h_t, .inr (2, [.ref h_t_tally, .ref h_t_holding, .ref h_t_isHeld, .int y1])), (h_t_holding, .inl (cI, 4096, .inl y2)), (h_t_tally, .inl (cI, 8, .inl t_tally)), (h_a1, .inr (6, [.ref h_a1_cells, .int a1_size, .int a1_most, .int a1_draw, .int a1_changes])), (h_a1_cells, .inl (cI, 48, .inl a1_cells))] H := hP
  have hD : va_D A [(h_t, .inr (2, [.ref h_t_tally, .ref h_t_holding, .ref h_t_isHeld, .int y1])), (h_t_holding, .inl (cI, 4096, .inl y2)), (h_t_tally, .inl (cI, 8, .inl t_tally)), (h_a1, .inr (6, [.ref h_a1_cells, .int a1_size, .int a1_most, .int a1_draw, .int a1_changes])), (h_a1_cells, .inl (cI, 48, .inl a1_cells))] := hD
  refine lv_aload_n hx hb dX5_bestSpare_5 rfl (lv_at hl 1 rfl) ?_
  refine gz_iR (va_runV (As := []) (rest := []) ⟨hx, hb, hml, hown, hts⟩ (c_X9_all l dC dI cI cJ cC cZ h_a1 h_a1_cells H.size a1_size a1_most a1_draw a1_changes _ hf) (cwV 0 hts gX5_bestSpare_X9_all rfl rfl rfl (by decide +kernel) ⟨Nat.le_of_ble_eq_true rfl, Nat.le_of_ble_eq_true rfl⟩) ⟨gz_blind, va_recv hK hP (ci := 6) (q0 := 3) rfl rfl, gz_pre (gz_P_of hP (is := [3]) (wc := [(h_a1, .inr (6, [.ref h_a1_cells, .int a1_size, .int a1_most, .int a1_draw, .int a1_changes]))]) rfl) hK (hD.sub [3] (by decide) rfl) gz_N0⟩ rfl rfl hl.1 rfl (lv_room (Nat.le_of_ble_eq_true rfl)) dX5_bestSpare_6 ⟨Nat.le_refl _, Nat.le_refl _⟩) hP hD hS hA [3] rfl (fun r3 H locs hf hP hS => ?_)
  refine lv_istore_n (lv' := [(2, .int r3), (0, .ref h_t), (1, .ref h_a1)]) hx hb dX5_bestSpare_9 rfl hl (by decide) rfl (fun ls hl => ?_)
  refine lv_iconst (v := (0 : Int32)) hx hb dX5_bestSpare_10 (by decide) ?_
  refine lv_istore_n (lv' := [(3, .int (0 : Int32)), (2, .int r3), (0, .ref h_t), (1, .ref h_a1)]) hx hb dX5_bestSpare_11 rfl hl (by decide) rfl (fun ls hl => ?_)
  refine lv_iconst (v := (0 : Int32)) hx hb dX5_bestSpare_12 (by decide) ?_
  refine lv_istore (lv' := [(4, .int (0 : Int32)), (3, .int (0 : Int32)), (2, .int r3), (0, .ref h_t), (1, .ref h_a1)]) hx hb dX5_bestSpare_13 hl (by decide) rfl (fun ls hl => ?_)
  obtain ⟨n, hf⟩ := hf
  exact L15 r3 y1 y2 n (0 : Int32) (0 : Int32) t_tally _ _ _ hf hP hD hS (lv_sub hl [3, 4, 2, 1, 0] rfl)
abbrev rm_X5_isNearer : Room := { frames := 1, cells := 0, slots := 0, locals := 24 }
set_option maxHeartbeats 4000000 in
set_option maxRecDepth 100000 in
theorem c_X5_isNearer (l : Launch) (dC : Nat → ClassId) (dI : Nat → Nat → Nat) (cI cJ cC cZ : ClassId) (sz : Nat) (x0 : Int32) (x1 : Int32) (Q : Int32 → Prop) (hw : p_X5_isNearer x0 x1 Q) : Met l yX5_isNearer wsX5_isNearer rm_X5_isNearer (va_Pc [.int x0, .int x1] (gz_B (dC, dI) (gz_T cI cJ cC cZ) [] sz [])) (va_Qi (fun (r : Int32) (u : Unit) => Q r) (fun u t => gz_E (dC, dI) (gz_T cI cJ cC cZ) (va_A [] sz) [] t) (va_A [] sz)) 0 0 (va_A [] sz) := by
  refine gz_mz (cc := cX5_isNearer) (maxL := 2) (plainFor_of_name (by decide +kernel)) rfl (Nat.le_of_ble_eq_true rfl) ?_
  intro p e s m below meth c A QQ ls hx hb hml hown0 hts hK hN hA hP hD hS hl ret
  have hown : s.vm.findClass RX5 = some m.cls := hown0
  have hl : lv_has ls 2 [(0, .int x0), (1, .int x1)] := hl
  have q0 := hts (.methodLink RX5 60 Lib.Math.abs.name) (List.mem_cons_of_mem _ (List.mem_of_getElem? (i := 0) rfl))
  have q1 := hts (.static Lib.Math.abs.name) (List.mem_cons_of_mem _ (List.mem_of_getElem? (i := 1) rfl))
  have q2 := hts (.initialized "java/lang/Math") (List.mem_cons_of_mem _ (List.mem_of_getElem? (i := 2) rfl))
  have q3 := hts (.code Lib.Math.abs.name Lib.Math.abs.code 1 (some .int)) (List.mem_cons_of_mem _ (List.mem_of_getElem? (i := 3) rfl))
  have hf := hw
  refine lv_iload_n hx hb dX5_isNearer_0 rfl (lv_at hl 0 rfl) ?_
  refine va_mabs (rest := []) hx hb (hml.trans hl.1.symm) hown q0 q1 q2 q3 (Nat.le_of_ble_eq_true rfl) (Nat.le_of_ble_eq_true rfl) (Nat.le_refl _) (Nat.le_refl _) dX5_isNearer_1 ?_
  refine lv_iload_n hx hb dX5_isNearer_4 rfl (lv_at hl 1 rfl) ?_
  refine va_mabs (rest := [.int (if 0 ≤ x0 then x0 else 0 - x0)]) hx hb (hml.trans hl.1.symm) hown q0 q1 q2 q3 (Nat.le_of_ble_eq_true rfl) (Nat.le_of_ble_eq_true rfl) (Nat.le_refl _) (Nat.le_refl _) dX5_isNearer_5 ?_
  refine lv_icmp_lt (tgt := 27) hx hb dX5_isNearer_8 (by decide) (fun hc3 => ?_) (fun hc3 => ?_)
  · have hf := hf.1 hc3
    refine lv_iconst (v := (1 : Int32)) hx hb dX5_isNearer_27 (by decide) ?_
    refine lv_goto (tgt := 32) hx hb dX5_isNearer_28 (by decide) ?_
    exact ret _ _ _ _ (1 : Int32) () rfl hf hP hD hS dX5_isNearer_32
  · have hf := hf.2 hc3
    refine lv_iload_n hx hb dX5_isNearer_11 rfl (lv_at hl 0 rfl) ?_
    refine va_mabs (rest := []) hx hb (hml.trans hl.1.symm) hown q0 q1 q2 q3 (Nat.le_of_ble_eq_true rfl) (Nat.le_of_ble_eq_true rfl) (Nat.le_refl _) (Nat.le_refl _) dX5_isNearer_12 ?_
    refine lv_iload_n hx hb dX5_isNearer_15 rfl (lv_at hl 1 rfl) ?_
    refine va_mabs (rest := [.int (if 0 ≤ x0 then x0 else 0 - x0)]) hx hb (hml.trans hl.1.symm) hown q0 q1 q2 q3 (Nat.le_of_ble_eq_true rfl) (Nat.le_of_ble_eq_true rfl) (Nat.le_refl _) (Nat.le_refl _) dX5_isNearer_16 ?_
    refine lv_icmp_ne (tgt := 31) hx hb dX5_isNearer_19 (by decide) (fun hc2 => ?_) (fun hc2 => ?_)
    · have hf := hf.2 hc2
      refine lv_iconst (v := (0 : Int32)) hx hb dX5_isNearer_31 (by decide) ?_
      exact ret _ _ _ _ (0 : Int32) () rfl hf hP hD hS dX5_isNearer_32
    · have hf := hf.1 hc2
      refine lv_iload_n hx hb dX5_isNearer_22 rfl (lv_at hl 0 rfl) ?_
      refine lv_iload_n hx hb dX5_isNearer_23 rfl (lv_at hl 1 rfl) ?_
      refine lv_icmp_le (tgt := 31) hx hb dX5_isNearer_24 (by decide) (fun hc1 => ?_) (fun hc1 => ?_)
      · have hf := hf.1 hc1
        refine lv_iconst (v := (0 : Int32)) hx hb dX5_isNearer_31 (by decide) ?_
        exact ret _ _ _ _ (0 : Int32) () rfl hf hP hD hS dX5_isNearer_32
      · have hf := hf.2 hc1
        refine lv_iconst (v := (1 : Int32)) hx hb dX5_isNearer_27 (by decide) ?_
        refine lv_goto (tgt := 32) hx hb dX5_isNearer_28 (by decide) ?_
        exact ret _ _ _ _ (1 : Int32) () rfl hf hP hD hS dX5_isNearer_32
abbrev rm_X5_leastStretch : Room := { frames := 4, cells := 0, slots := 0, locals := 96 }
set_option maxHeartbeats 4000000 in
set_option maxRecDepth 100000 in
theorem c_X5_leastStretch (l : Launch) (dC : Nat → ClassId) (dI : Nat → Nat → Nat) (cI cJ cC cZ : ClassId) (h_t h_t_tally h_t_holding h_t_isHeld h_a1 h_a1_cells : Nat) (sz : Nat) (t_seenChanges : Int32) (t_holding : Nat → Int32) (a1_size : Int32) (a1_most : Int32) (a1_draw : Int32) (a1_changes : Int32) (a1_cells : Nat → Int32) (x2 : Int32) (Q : Int32 → Int32 → (Nat → Int32) → Prop) (hw : p_X5_leastStretch t_seenChanges t_holding a1_size a1_most a1_changes a1_cells x2 Q) : Met l yX5_leastStretch wsX5_leastStretch rm_X5_leastStretch (va_Pc [.ref h_t, .ref h_a1, .int x2] (gz_B (dC, dI) (gz_T cI cJ cC cZ) [] sz [(h_t, .inr (2, [.ref h_t_tally, .ref h_t_holding, .ref h_t_isHeld, .int t_seenChanges])), (h_t_holding, .inl (cI, 4096, .inl t_holding)), (h_a1, .inr (6, [.ref h_a1_cells, .int a1_size, .int a1_most, .int a1_draw, .int a1_changes])), (h_a1_cells, .inl (cI, 48, .inl a1_cells))])) (va_Qi (fun (r : Int32) (u : Int32 × (Nat → Int32)) => Q r u.1 u.2) (fun u t => gz_E (dC, dI) (gz_T cI cJ cC cZ) (va_A [(h_t, .inr (2, [.ref h_t_tally, .ref h_t_holding, .ref h_t_isHeld, .int t_seenChanges])), (h_t_holding, .inl (cI, 4096, .inl t_holding)), (h_a1, .inr (6, [.ref h_a1_cells, .int a1_size, .int a1_most, .int a1_draw, .int a1_changes])), (h_a1_cells, .inl (cI, 48, .inl a1_cells))] sz) [(h_t, .inr (2, [.ref h_t_tally, .ref h_t_holding, .ref h_t_isHeld, .int u.1])), (h_t_holding, .inl (cI, 4096, .inl u.2)), (h_a1, .inr (6, [.ref h_a1_cells, .int a1_size, .int a1_most, .int a1_draw, .int a1_changes])), (h_a1_cells, .inl (cI, 48, .inl a1_cells))] t) (va_A [(h_t, .inr (2, [.ref h_t_tally, .ref h_t_holding, .ref h_t_isHeld, .int t_seenChanges])), (h_t_holding, .inl (cI, 4096, .inl t_holding)), (h_a1, .inr (6, [.ref h_a1_cells, .int a1_size, .int a1_most, .int a1_draw, .int a1_changes])), (h_a1_cells, .inl (cI, 48, .inl a1_cells))] sz)) 0 0 (va_A [(h_t, .inr (2, [.ref h_t_tally, .ref h_t_holding, .ref h_t_isHeld, .int t_seenChanges])), (h_t_holding, .inl (cI, 4096, .inl t_holding)), (h_a1, .inr (6, [.ref h_a1_cells, .int a1_size, .int a1_most, .int a1_draw, .int a1_changes])), (h_a1_cells, .inl (cI, 48, .inl a1_cells))] sz) := by
  refine gz_mi (cc := cX5_leastStretch) (maxL := 8) (plainFor_of_name (by decide +kernel)) rfl (Nat.le_of_ble_eq_true rfl) ?_
  intro p e s m below meth c A QQ ls hx hb hml hown0 hts hK hN hA hP hD hS hl ret
  have hown : s.vm.findClass RX5 = some m.cls := hown0
  have hl : lv_has ls 8 [(0, .ref h_t), (1, .ref h_a1), (2, .int x2)] := hl
  have q0 := hts (.fieldLink RX5 15 "DarkShadows$Search" "holding" "[I") (List.mem_cons_of_mem _ (List.mem_append_left _ (List.mem_append_left _ (List.mem_append_left _ (List.mem_of_getElem? (i := 0) rfl)))))
  have hinX5 : ∀ w ∈ wsX50, w ∈ wsX5_leastStretch := fun w h => List.mem_cons_of_mem _ (List.mem_append_left _ (List.mem_append_right _ h))
  have L25 : ∀ (x3 : Int32) (x4 : Int32) (t_seenChanges : Int32) (t_holding : Nat → Int32) (n : Nat) (x5 : Int32) (x6 : Int32) (H : Heap) (locs : List Loc) (ls : Array Slot), gi2 (p_X5_leastStretch_25 t_seenChanges t_holding a1_cells x2 x3 x4 Q) n x5 x6 → va_P (dC, dI) vwCl [(h_t, .inr (2, [.ref h_t_tally, .ref h_t_holding, .ref h_t_isHeld, .int t_seenChanges])), (h_t_holding, .inl (cI, 4096, .inl t_holding)), (h_a1, .inr (6, [.ref h_a1_cells, .int a1_size, .int a1_most, .int a1_draw, .int a1_changes])), (h_a1_cells, .inl (cI, 48, .inl a1_cells))] H → va_D A [(h_t, .inr (2, [.ref h_t_tally, .ref h_t_holding, .ref h_t_isHeld, .int t_seenChanges])), (h_t_holding, .inl (cI, 4096, .inl t_holding)), (h_a1, .inr (6, [.ref h_a1_cells, .int a1_size, .int a1_most, .int a1_draw, .int a1_changes])), (h_a1_cells, .inl (cI, 48, .inl a1_cells))] → va_S A s.heap H locs → lv_has ls 8 [(0, .ref h_t), (1, .ref h_a1), (2, .int x2), (3, .int x3), (4, .int x4), (5, .int x5), (6, .int x6)] → W p l e rm_X5_leastStretch s m [.ref h_t, .ref h_a1, .int x2].toArray below meth c H locs 0 0 QQ (F0 m 25 ls []) := by
    intro x3 x4 t_seenChanges t_holding n
    induction n with
    | zero => intro x5 x6 H locs ls hf; exact False.elim hf
    | succ n ih25 =>
      generalize hK25 : gi2 (p_X5_leastStretch_25 t_seenChanges t_holding a1_cells x2 x3 x4 Q) n = K25 at ih25
      have L81 : ∀ (x5 : Int32) (x6 : Int32) (H : Heap) (locs : List Loc) (ls : Array Slot), p_X5_leastStretch_81 x5 x6 K25 → va_P (dC, dI) vwCl [(h_t, .inr (2, [.ref h_t_tally, .ref h_t_holding, .ref h_t_isHeld, .int t_seenChanges])), (h_t_holding, .inl (cI, 4096, .inl t_holding)), (h_a1, .inr (6, [.ref h_a1_cells, .int a1_size, .int a1_most, .int a1_draw, .int a1_changes])), (h_a1_cells, .inl (cI, 48, .inl a1_cells))] H → va_D A [(h_t, .inr (2, [.ref h_t_tally, .ref h_t_holding, .ref h_t_isHeld, .int t_seenChanges])), (h_t_holding, .inl (cI, 4096, .inl t_holding)), (h_a1, .inr (6, [.ref h_a1_cells, .int a1_size, .int a1_most, .int a1_draw, .int a1_changes])), (h_a1_cells, .inl (cI, 48, .inl a1_cells))] → va_S A s.heap H locs → lv_has ls 8 [(0, .ref h_t), (1, .ref h_a1), (2, .int x2), (3, .int x3), (4, .int x4), (5, .int x5), (6, .int x6)] → W p l e rm_X5_leastStretch s m [.ref h_t, .ref h_a1, .int x2].toArray below meth c H locs 0 0 QQ (F0 m 81 ls []) := by
        intro x5 x6 H locs ls hf hP hD hS hl
        refine lv_iinc (v := (x6 + (1 : Int32))) (lv' := [(6, .int (x6 + (1 : Int32))), (0, .ref h_t), (1, .ref h_a1), (2, .int x2), (3, .int x3), (4, .int x4), (5, .int x5)]) hx hb dX5_leastStretch_81 hl (k := 6) rfl rfl (by decide) rfl (fun ls hl => ?_)
        refine lv_goto (tgt := 25) hx hb dX5_leastStretch_84 (by decide) ?_
        exact ih25 x5 (x6 + (1 : Int32)) _ _ _ hf hP hD hS (lv_sub hl [1, 2, 3, 4, 5, 6, 0] rfl)
      have L79 : ∀ (x6 : Int32) (s0 : Int32) (H : Heap) (locs : List Loc) (ls : Array Slot), p_X5_leastStretch_79 x6 s0 K25 → va_P (dC, dI) vwCl [(h_t, .inr (2, [.ref h_t_tally, .ref h_t_holding, .ref h_t_isHeld, .int t_seenChanges])), (h_t_holding, .inl (cI, 4096, .inl t_holding)), (h_a1, .inr (6, [.ref h_a1_cells, .int a1_size, .int a1_most, .int a1_draw, .int a1_changes])), (h_a1_cells, .inl (cI, 48, .inl a1_cells))] H → va_D A [(h_t, .inr (2, [.ref h_t_tally, .ref h_t_holding, .ref h_t_isHeld, .int t_seenChanges])), (h_t_holding, .inl (cI, 4096, .inl t_holding)), (h_a1, .inr (6, [.ref h_a1_cells, .int a1_size, .int a1_most, .int a1_draw, .int a1_changes])), (h_a1_cells, .inl (cI, 48, .inl a1_cells))] → va_S A s.heap H locs → lv_has ls 8 [(0, .ref h_t), (1, .ref h_a1), (2, .int x2), (3, .int x3), (4, .int x4), (6, .int x6)] → W p l e rm_X5_leastStretch s m [.ref h_t, .ref h_a1, .int x2].toArray below meth c H locs 0 0 QQ (F0 m 79 ls [.int s0]) := by
        intro x6 s0 H locs ls hf hP hD hS hl
        refine lv_istore (lv' := [(5, .int s0), (0, .ref h_t), (1, .ref h_a1), (2, .int x2), (3, .int x3), (4, .int x4), (6, .int x6)]) hx hb dX5_leastStretch_79 hl (by decide) rfl (fun ls hl => ?_)
        exact L81 s0 x6 _ _ _ hf hP hD hS (lv_sub hl [1, 2, 3, 4, 5, 0, 6] rfl)
      intro x5 x6 H locs ls hf hP hD hS hl
      have hf : p_X5_leastStretch_25 t_seenChanges t_holding a1_cells x2 x3 x4 Q (gi2 (p_X5_leastStretch_25 t_seenChanges t_holding a1_cells x2 x3 x4 Q) n) x5 x6 := hf
      rw [hK25] at hf
      refine lv_iload hx hb dX5_leastStretch_25 (lv_at hl 6 rfl) ?_
      refine lv_sipush (v := (4095 : Int32)) hx hb dX5_leastStretch_27 (by decide) ?_
      refine lv_icmp_gt (tgt := 87) hx hb dX5_leastStretch_30 (by decide) (fun hc11 => ?_) (fun hc11 => ?_)
      · have hf := hf.1 hc11
        refine lv_iload hx hb dX5_leastStretch_87 (lv_at hl 5 rfl) ?_
        exact ret _ _ _ _ x5 (t_seenChanges, t_holding) hf hP hD hS dX5_leastStretch_89
      · have hf := hf.2 hc11
        refine lv_aload_n hx hb dX5_leastStretch_33 rfl (lv_at hl 0 rfl) ?_
        refine va_get (D := (dC, dI)) (ci := 2) (v := .ref h_t_holding) (C := RX5) (T := TX5) (N := 4) hx hb hts hinX5 hown hK hP 0 rfl rfl 1 (by decide) q0 (fun _ h9 => h9) rfl dX5_leastStretch_34 ?_
        refine lv_iload hx hb dX5_leastStretch_37 (lv_at hl 6 rfl) ?_
        obtain ⟨hb5, hf⟩ := hf
        refine va_iald hx hb hK hP 1 0 rfl rfl hb5 dX5_leastStretch_39 ?_
        refine lv_iconst (v := (1 : Int32)) hx hb dX5_leastStretch_40 (by decide) ?_
        refine lv_iload_n hx hb dX5_leastStretch_41 rfl (lv_at hl 2 rfl) ?_
        refine lv_ishl hx hb dX5_leastStretch_42 ?_
        refine lv_ior hx hb dX5_leastStretch_43 ?_
        refine lv_iload_n hx hb dX5_leastStretch_44 rfl (lv_at hl 3 rfl) ?_
        refine lv_icmp_ne (tgt := 81) hx hb dX5_leastStretch_45 (by decide) (fun hc10 => ?_) (fun hc10 => ?_)
        · have hf := hf.2 hc10
          exact L81 x5 x6 _ _ _ hf hP hD hS hl
        · have hf := hf.1 hc10
          refine lv_iload hx hb dX5_leastStretch_48 (lv_at hl 4 rfl) ?_
          refine lv_aload_n hx hb dX5_leastStretch_50 rfl (lv_at hl 1 rfl) ?_
          refine lv_iload_n hx hb dX5_leastStretch_51 rfl (lv_at hl 2 rfl) ?_
          refine lv_iload hx hb dX5_leastStretch_52 (lv_at hl 6 rfl) ?_
          refine gz_iR (va_runV (As := [.int x2, .int x6]) (rest := [.int x4]) ⟨hx, hb, hml, hown, hts⟩ (c_X9_sumAt l dC dI cI cJ cC cZ h_a1 h_a1_cells H.size a1_size a1_most a1_draw a1_changes a1_cells x2 x6 _ hf) (cwV 2 hts gX5_leastStretch_X9_sumAt rfl rfl rfl (by decide +kernel) ⟨Nat.le_of_ble_eq_true rfl, Nat.le_of_ble_eq_true rfl⟩) ⟨gz_blind, va_recv hK hP (ci := 6) (q0 := 2) rfl rfl, gz_pre (gz_P_of hP (is := [2, 3]) (wc := [(h_a1, .inr (6, [.ref h_a1_cells, .int a1_size, .int a1_most, .int a1_draw, .int a1_changes])), (h_a1_cells, .inl (cI, 48, .inl a1_cells))]) rfl) hK (hD.sub [2, 3] (by decide) rfl) gz_N0⟩ rfl rfl hl.1 rfl (lv_room (Nat.le_of_ble_eq_true rfl)) dX5_leastStretch_54 ⟨Nat.le_refl _, Nat.le_refl _⟩) hP hD hS hA [2, 3] rfl (fun r6 H locs hf hP hS => ?_)
          refine gz_i0 (va_runS (As := [.int x4, .int r6]) (rest := []) ⟨hx, hb, hml, hown, hts⟩ (c_X1_lacking l dC dI cI cJ cC cZ H.size x4 r6 _ hf) (va_cwS 2 hts gX5_leastStretch_X1_lacking rfl rfl rfl (by decide +kernel) ⟨Nat.le_of_ble_eq_true rfl, Nat.le_of_ble_eq_true rfl⟩) ⟨gz_blind, gz_pre (gz_P_of hP (is := []) (wc := []) rfl) hK (hD.sub [] (by decide) rfl) gz_N0⟩ rfl rfl hl.1 rfl (lv_room (Nat.le_of_ble_eq_true rfl)) dX5_leastStretch_57 ⟨Nat.le_refl _, Nat.le_refl _⟩) hP hD hS hA (fun r7 H locs hf hP hS => ?_)
          refine lv_istore (lv' := [(7, .int r7), (0, .ref h_t), (1, .ref h_a1), (2, .int x2), (3, .int x3), (4, .int x4), (5, .int x5), (6, .int x6)]) hx hb dX5_leastStretch_60 hl (by decide) rfl (fun ls hl => ?_)
          refine lv_iload hx hb dX5_leastStretch_62 (lv_at hl 0 rfl) ?_
          refine lv_iload hx hb dX5_leastStretch_64 (lv_at hl 6 rfl) ?_
          refine gz_i0 (va_runS (As := [.int r7, .int x5]) (rest := []) ⟨hx, hb, hml, hown, hts⟩ (c_X5_isNearer l dC dI cI cJ cC cZ H.size r7 x5 _ hf) (va_cwS 2 hts gX5_leastStretch_X5_isNearer rfl rfl rfl (by decide +kernel) ⟨Nat.le_of_ble_eq_true rfl, Nat.le_of_ble_eq_true rfl⟩) ⟨gz_blind, gz_pre (gz_P_of hP (is := []) (wc := []) rfl) hK (hD.sub [] (by decide) rfl) gz_N0⟩ rfl rfl hl.1 rfl (lv_room (Nat.le_of_ble_eq_true rfl)) dX5_leastStretch_66 ⟨Nat.le_refl _, Nat.le_refl _⟩) hP hD hS hA (fun r8 H locs hf hP hS => ?_)
          refine lv_if_eq (tgt := 77) hx hb dX5_leastStretch_69 (by decide) (fun hc9 => ?_) (fun hc9 => ?_)
          · have hf := hf.1 hc9
            refine lv_iload hx hb dX5_leastStretch_77 (lv_at hl 6 rfl) ?_
            exact L79 x6 x5 _ _ _ hf hP hD hS (lv_sub hl [1, 2, 3, 4, 5, 7] rfl)
          · have hf := hf.2 hc9
            refine lv_iload hx hb dX5_leastStretch_72 (lv_at hl 0 rfl) ?_
            refine lv_goto (tgt := 79) hx hb dX5_leastStretch_74 (by decide) ?_
            exact L79 x6 r7 _ _ _ hf hP hD hS (lv_sub hl [1, 2, 3, 4, 5, 7] rfl)
  have hf := hw
  refine lv_aload_n hx hb dX5_leastStretch_0 rfl (lv_at hl 0 rfl) ?_
  refine lv_aload_n hx hb dX5_leastStretch_1 rfl (lv_at hl 1 rfl) ?_
  refine gz_v (W1 := (fun u : Int32 × (Nat → Int32) => [(h_t, .inr (2, [.ref h_t_tally, .ref h_t_holding, .ref h_t_isHeld, .int u.1])), (h_t_holding, .inl (cI, 4096, .inl u.2)), (h_a1, .inr (6, [.ref h_a1_cells, .int a1_size, .int a1_most, .int a1_draw, .int a1_changes])), (h_a1_cells, .inl (cI, 48, .inl a1_cells))])) (wn := (fun u : Int32 × (Nat → Int32) => [(h_t, .inr (2, [.ref h_t_tally, .ref h_t_holding, .ref h_t_isHeld, .int u.1])), (h_t_holding, .inl (cI, 4096, .inl u.2)), (h_a1, .inr (6, [.ref h_a1_cells, .int a1_size, .int a1_most, .int a1_draw, .int a1_changes])), (h_a1_cells, .inl (cI, 48, .inl a1_cells))])) (wr := []) (va_runV (As := [.ref h_a1]) (rest := []) ⟨hx, hb, hml, hown, hts⟩ (c_X5_lookAt l dC dI cI cJ cC cZ h_t h_t_tally h_t_holding h_t_isHeld h_a1 h_a1_cells s.heap.size t_seenChanges t_holding a1_size a1_most a1_draw a1_changes a1_cells _ hf) (cwV 1 hts gX5_leastStretch_X5_lookAt rfl rfl rfl (by decide +kernel) ⟨Nat.le_of_ble_eq_true rfl, Nat.le_of_ble_eq_true rfl⟩) ⟨gz_blind, va_recv hK hP (ci := 2) (q0 := 0) rfl rfl, gz_pre (gz_P_of hP (is := [0, 1, 2, 3]) (wc := [(h_t, .inr (2, [.ref h_t_tally, .ref h_t_holding, .ref h_t_isHeld, .int t_seenChanges])), (h_t_holding, .inl (cI, 4096, .inl t_holding)), (h_a1, .inr (6, [.ref h_a1_cells, .int a1_size, .int a1_most, .int a1_draw, .int a1_changes])), (h_a1_cells, .inl (cI, 48, .inl a1_cells))]) rfl) hK (hD.sub [0, 1, 2, 3] (by decide) rfl) gz_N0⟩ rfl rfl hl.1 rfl (lv_room (Nat.le_of_ble_eq_true rfl)) dX5_leastStretch_2 ⟨Nat.le_refl _, Nat.le_refl _⟩) hP hD hS hA [0, 1, 2, 3] [] [0, 1, 2, 3] rfl rfl (by decide) (by decide) (fun _ => rfl) (by decide) (fun  u H locs hf hP hD hS => ?_)
  obtain ⟨y1, y2⟩ := u
  have hP : va_P (dC, dI) vwCl [(h_t, .inr (2, [.ref h_t_tally, .ref h_t_holding, .ref h_t_isHeld, .int y1])), (h_t_holding, .inl (cI, 4096, .inl y2)), (h_a1, .inr (6, [.ref h_a1_cells, .int a1_size, .int a1_most, .int a1_draw, .int a1_changes])), (h_a1_cells, .inl (cI, 48, .inl a1_cells))] H := hP
  have hD : va_D A [(h_t, .inr (2, [.ref h_t_tally, .ref h_t_holding, .ref h_t_isHeld, .int y1])), (h_t_holding, .inl (cI, 4096, .inl y2)), (h_a1, .inr (6, [.ref h_a1_cells, .int a1_size, .int a1_most, .int a1_draw, .int a1_changes])), (h_a1_cells, .inl (cI, 48, .inl a1_cells))] := hD
  refine lv_aload_n hx hb dX5_leastStretch_5 rfl (lv_at hl 1 rfl) ?_
  refine gz_iR (va_runV (As := []) (rest := []) ⟨hx, hb, hml, hown, hts⟩ (c_X9_all l dC dI cI cJ cC cZ h_a1 h_a1_cells H.size a1_size a1_most a1_draw a1_changes _ hf) (cwV 0 hts gX5_leastStretch_X9_all rfl rfl rfl (by decide +kernel) ⟨Nat.le_of_ble_eq_true rfl, Nat.le_of_ble_eq_true rfl⟩) ⟨gz_blind, va_recv hK hP (ci := 6) (q0 := 2) rfl rfl, gz_pre (gz_P_of hP (is := [2]) (wc := [(h_a1, .inr (6, [.ref h_a1_cells, .int a1_size, .int a1_most, .int a1_draw, .int a1_changes]))]) rfl) hK (hD.sub [2] (by decide) rfl) gz_N0⟩ rfl rfl hl.1 rfl (lv_room (Nat.le_of_ble_eq_true rfl)) dX5_leastStretch_6 ⟨Nat.le_refl _, Nat.le_refl _⟩) hP hD hS hA [2] rfl (fun r3 H locs hf hP hS => ?_)
  refine lv_istore_n (lv' := [(3, .int r3), (0, .ref h_t), (1, .ref h_a1), (2, .int x2)]) hx hb dX5_leastStretch_9 rfl hl (by decide) rfl (fun ls hl => ?_)
  refine lv_aload_n hx hb dX5_leastStretch_10 rfl (lv_at hl 2 rfl) ?_
  refine lv_iload_n hx hb dX5_leastStretch_11 rfl (lv_at hl 3 rfl) ?_
  refine lv_iconst (v := (5 : Int32)) hx hb dX5_leastStretch_12 (by decide) ?_
  refine gz_iR (va_runV (As := [.int x2, .int (5 : Int32)]) (rest := []) ⟨hx, hb, hml, hown, hts⟩ (c_X9_cell l dC dI cI cJ cC cZ h_a1 h_a1_cells H.size a1_size a1_most a1_draw a1_changes a1_cells x2 (5 : Int32) _ hf) (cwV 2 hts gX5_leastStretch_X9_cell rfl rfl rfl (by decide +kernel) ⟨Nat.le_of_ble_eq_true rfl, Nat.le_of_ble_eq_true rfl⟩) ⟨gz_blind, va_recv hK hP (ci := 6) (q0 := 2) rfl rfl, gz_pre (gz_P_of hP (is := [2, 3]) (wc := [(h_a1, .inr (6, [.ref h_a1_cells, .int a1_size, .int a1_most, .int a1_draw, .int a1_changes])), (h_a1_cells, .inl (cI, 48, .inl a1_cells))]) rfl) hK (hD.sub [2, 3] (by decide) rfl) gz_N0⟩ rfl rfl hl.1 rfl (lv_room (Nat.le_of_ble_eq_true rfl)) dX5_leastStretch_13 ⟨Nat.le_refl _, Nat.le_refl _⟩) hP hD hS hA [2, 3] rfl (fun r4 H locs hf hP hS => ?_)
  refine lv_istore (lv' := [(4, .int r4), (3, .int r3), (0, .ref h_t), (1, .ref h_a1), (2, .int x2)]) hx hb dX5_leastStretch_16 hl (by decide) rfl (fun ls hl => ?_)
  refine lv_bipush (v := (100 : Int32)) hx hb dX5_leastStretch_18 (by decide) ?_
  refine lv_istore (lv' := [(5, .int (100 : Int32)), (4, .int r4), (3, .int r3), (0, .ref h_t), (1, .ref h_a1), (2, .int x2)]) hx hb dX5_leastStretch_20 hl (by decide) rfl (fun ls hl => ?_)
  refine lv_iconst (v := (0 : Int32)) hx hb dX5_leastStretch_22 (by decide) ?_
  refine lv_istore (lv' := [(6, .int (0 : Int32)), (5, .int (100 : Int32)), (4, .int r4), (3, .int r3), (0, .ref h_t), (1, .ref h_a1), (2, .int x2)]) hx hb dX5_leastStretch_23 hl (by decide) rfl (fun ls hl => ?_)
  obtain ⟨n, hf⟩ := hf
  exact L25 r3 r4 y1 y2 n (100 : Int32) (0 : Int32) _ _ _ hf hP hD hS (lv_sub hl [4, 5, 6, 3, 2, 1, 0] rfl)
abbrev rm_X5_leavesNoPoint : Room := { frames := 0, cells := 0, slots := 0, locals := 0 }
set_option maxHeartbeats 4000000 in
set_option maxRecDepth 100000 in
theorem c_X5_leavesNoPoint (l : Launch) (dC : Nat → ClassId) (dI : Nat → Nat → Nat) (cI cJ cC cZ : ClassId) (h_t h_t_tally h_t_holding h_t_isHeld : Nat) (sz : Nat) (t_seenChanges : Int32) (t_isHeld : Nat → Int32) (x1 : Int32) (x2 : Int32) (Q : Int32 → Prop) (hw : p_X5_leavesNoPoint t_isHeld x1 x2 Q) : Met l yX5_leavesNoPoint wsX5_leavesNoPoint rm_X5_leavesNoPoint (va_Pc [.ref h_t, .int x1, .int x2] (gz_B (dC, dI) (gz_T cI cJ cC cZ) [] sz [(h_t, .inr (2, [.ref h_t_tally, .ref h_t_holding, .ref h_t_isHeld, .int t_seenChanges])), (h_t_isHeld, .inl (cZ, 256, .inl t_isHeld))])) (va_Qi (fun (r : Int32) (u : Unit) => Q r) (fun u t => gz_E (dC, dI) (gz_T cI cJ cC cZ) (va_A [(h_t, .inr (2, [.ref h_t_tally, .ref h_t_holding, .ref h_t_isHeld, .int t_seenChanges])), (h_t_isHeld, .inl (cZ, 256, .inl t_isHeld))] sz) [(h_t, .inr (2, [.ref h_t_tally, .ref h_t_holding, .ref h_t_isHeld, .int t_seenChanges])), (h_t_isHeld, .inl (cZ, 256, .inl t_isHeld))] t) (va_A [(h_t, .inr (2, [.ref h_t_tally, .ref h_t_holding, .ref h_t_isHeld, .int t_seenChanges])), (h_t_isHeld, .inl (cZ, 256, .inl t_isHeld))] sz)) 0 0 (va_A [(h_t, .inr (2, [.ref h_t_tally, .ref h_t_holding, .ref h_t_isHeld, .int t_seenChanges])), (h_t_isHeld, .inl (cZ, 256, .inl t_isHeld))] sz) := by
  refine gz_mz (cc := cX5_leavesNoPoint) (maxL := 4) (plainFor_of_name (by decide +kernel)) rfl (Nat.le_of_ble_eq_true rfl) ?_
  intro p e s m below meth c A QQ ls hx hb hml hown0 hts hK hN hA hP hD hS hl ret
  have hown : s.vm.findClass RX5 = some m.cls := hown0
  have hl : lv_has ls 4 [(0, .ref h_t), (1, .int x1), (2, .int x2)] := hl
  have q0 := hts (.fieldLink RX5 18 "DarkShadows$Search" "isHeld" "[Z") (List.mem_cons_of_mem _ (List.mem_append_left _ (List.mem_of_getElem? (i := 0) rfl)))
  have hinX5 : ∀ w ∈ wsX50, w ∈ wsX5_leavesNoPoint := fun w h => List.mem_cons_of_mem _ (List.mem_append_right _ h)
  have L2 : ∀ (n : Nat) (x3 : Int32) (H : Heap) (locs : List Loc) (ls : Array Slot), gi1 (p_X5_leavesNoPoint_2 t_isHeld x1 x2 Q) n x3 → va_P (dC, dI) vwCl [(h_t, .inr (2, [.ref h_t_tally, .ref h_t_holding, .ref h_t_isHeld, .int t_seenChanges])), (h_t_isHeld, .inl (cZ, 256, .inl t_isHeld))] H → va_D A [(h_t, .inr (2, [.ref h_t_tally, .ref h_t_holding, .ref h_t_isHeld, .int t_seenChanges])), (h_t_isHeld, .inl (cZ, 256, .inl t_isHeld))] → va_S A s.heap H locs → lv_has ls 4 [(0, .ref h_t), (1, .int x1), (2, .int x2), (3, .int x3)] → W p l e rm_X5_leavesNoPoint s m [.ref h_t, .int x1, .int x2].toArray below meth c H locs 0 0 QQ (F0 m 2 ls []) := by
    intro  n
    induction n with
    | zero => intro x3 H locs ls hf; exact False.elim hf
    | succ n ih2 =>
      generalize hK2 : gi1 (p_X5_leavesNoPoint_2 t_isHeld x1 x2 Q) n = K2 at ih2
      have L25 : ∀ (x3 : Int32) (H : Heap) (locs : List Loc) (ls : Array Slot), p_X5_leavesNoPoint_25 x3 K2 → va_P (dC, dI) vwCl [(h_t, .inr (2, [.ref h_t_tally, .ref h_t_holding, .ref h_t_isHeld, .int t_seenChanges])), (h_t_isHeld, .inl (cZ, 256, .inl t_isHeld))] H → va_D A [(h_t, .inr (2, [.ref h_t_tally, .ref h_t_holding, .ref h_t_isHeld, .int t_seenChanges])), (h_t_isHeld, .inl (cZ, 256, .inl t_isHeld))] → va_S A s.heap H locs → lv_has ls 4 [(0, .ref h_t), (1, .int x1), (2, .int x2), (3, .int x3)] → W p l e rm_X5_leavesNoPoint s m [.ref h_t, .int x1, .int x2].toArray below meth c H locs 0 0 QQ (F0 m 25 ls []) := by
        intro x3 H locs ls hf hP hD hS hl
        refine lv_iinc (v := (x3 + (1 : Int32))) (lv' := [(3, .int (x3 + (1 : Int32))), (0, .ref h_t), (1, .int x1), (2, .int x2)]) hx hb dX5_leavesNoPoint_25 hl (k := 3) rfl rfl (by decide) rfl (fun ls hl => ?_)
        refine lv_goto (tgt := 2) hx hb dX5_leavesNoPoint_28 (by decide) ?_
        exact ih2 (x3 + (1 : Int32)) _ _ _ hf hP hD hS (lv_sub hl [1, 2, 3, 0] rfl)
      intro x3 H locs ls hf hP hD hS hl
      have hf : p_X5_leavesNoPoint_2 t_isHeld x1 x2 Q (gi1 (p_X5_leavesNoPoint_2 t_isHeld x1 x2 Q) n) x3 := hf
      rw [hK2] at hf
      refine lv_iload_n hx hb dX5_leavesNoPoint_2 rfl (lv_at hl 3 rfl) ?_
      refine lv_iload_n hx hb dX5_leavesNoPoint_3 rfl (lv_at hl 2 rfl) ?_
      refine lv_icmp_gt (tgt := 31) hx hb dX5_leavesNoPoint_4 (by decide) (fun hc4 => ?_) (fun hc4 => ?_)
      · have hf := hf.1 hc4
        refine lv_iconst (v := (1 : Int32)) hx hb dX5_leavesNoPoint_31 (by decide) ?_
        exact ret _ _ _ _ (1 : Int32) () rfl hf hP hD hS dX5_leavesNoPoint_32
      · have hf := hf.2 hc4
        refine lv_aload_n hx hb dX5_leavesNoPoint_7 rfl (lv_at hl 0 rfl) ?_
        refine va_get (D := (dC, dI)) (ci := 2) (v := .ref h_t_isHeld) (C := RX5) (T := TX5) (N := 4) hx hb hts hinX5 hown hK hP 0 rfl rfl 2 (by decide) q0 (fun _ h9 => h9) rfl dX5_leavesNoPoint_8 ?_
        refine lv_iload_n hx hb dX5_leavesNoPoint_11 rfl (lv_at hl 3 rfl) ?_
        obtain ⟨hb1, hf⟩ := hf
        refine va_zald hx hb hK hP 1 3 rfl rfl hb1 dX5_leavesNoPoint_12 ?_
        refine lv_if_eq (tgt := 25) hx hb dX5_leavesNoPoint_13 (by decide) (fun hc3 => ?_) (fun hc3 => ?_)
        · have hf := hf.1 hc3
          exact L25 x3 _ _ _ hf hP hD hS hl
        · have hf := hf.2 hc3
          refine lv_iload_n hx hb dX5_leavesNoPoint_16 rfl (lv_at hl 3 rfl) ?_
          refine lv_iload_n hx hb dX5_leavesNoPoint_17 rfl (lv_at hl 1 rfl) ?_
          refine lv_iand hx hb dX5_leavesNoPoint_18 ?_
          refine lv_iload_n hx hb dX5_leavesNoPoint_19 rfl (lv_at hl 1 rfl) ?_
          refine lv_icmp_ne (tgt := 25) hx hb dX5_leavesNoPoint_20 (by decide) (fun hc2 => ?_) (fun hc2 => ?_)
          · have hf := hf.2 hc2
            exact L25 x3 _ _ _ hf hP hD hS hl
          · have hf := hf.1 hc2
            refine lv_iconst (v := (0 : Int32)) hx hb dX5_leavesNoPoint_23 (by decide) ?_
            exact ret _ _ _ _ (0 : Int32) () rfl hf hP hD hS dX5_leavesNoPoint_24
  have hf := hw
  refine lv_iload_n hx hb dX5_leavesNoPoint_0 rfl (lv_at hl 1 rfl) ?_
  refine lv_istore_n (lv' := [(3, .int x1), (0, .ref h_t), (1, .int x1), (2, .int x2)]) hx hb dX5_leavesNoPoint_1 rfl hl (by decide) rfl (fun ls hl => ?_)
  obtain ⟨n, hf⟩ := hf
  exact L2  n x1 _ _ _ hf hP hD hS (lv_sub hl [1, 2, 3, 0] rfl)
abbrev rm_X5_fewestWithoutPoint : Room := { frames := 1, cells := 0, slots := 0, locals := 23 }
set_option maxHeartbeats 4000000 in
set_option maxRecDepth 100000 in
theorem c_X5_fewestWithoutPoint (l : Launch) (dC : Nat → ClassId) (dI : Nat → Nat → Nat) (cI cJ cC cZ : ClassId) (h_t h_t_tally h_t_holding h_t_isHeld : Nat) (sz : Nat) (t_seenChanges : Int32) (t_isHeld : Nat → Int32) (x1 : Int32) (Q : Int32 → Prop) (hw : p_X5_fewestWithoutPoint t_isHeld x1 Q) : Met l yX5_fewestWithoutPoint wsX5_fewestWithoutPoint rm_X5_fewestWithoutPoint (va_Pc [.ref h_t, .int x1] (gz_B (dC, dI) (gz_T cI cJ cC cZ) [] sz [(h_t, .inr (2, [.ref h_t_tally, .ref h_t_holding, .ref h_t_isHeld, .int t_seenChanges])), (h_t_isHeld, .inl (cZ, 256, .inl t_isHeld))])) (va_Qi (fun (r : Int32) (u : Unit) => Q r) (fun u t => gz_E (dC, dI) (gz_T cI cJ cC cZ) (va_A [(h_t, .inr (2, [.ref h_t_tally, .ref h_t_holding, .ref h_t_isHeld, .int t_seenChanges])), (h_t_isHeld, .inl (cZ, 256, .inl t_isHeld))] sz) [(h_t, .inr (2, [.ref h_t_tally, .ref h_t_holding, .ref h_t_isHeld, .int t_seenChanges])), (h_t_isHeld, .inl (cZ, 256, .inl t_isHeld))] t) (va_A [(h_t, .inr (2, [.ref h_t_tally, .ref h_t_holding, .ref h_t_isHeld, .int t_seenChanges])), (h_t_isHeld, .inl (cZ, 256, .inl t_isHeld))] sz)) 0 0 (va_A [(h_t, .inr (2, [.ref h_t_tally, .ref h_t_holding, .ref h_t_isHeld, .int t_seenChanges])), (h_t_isHeld, .inl (cZ, 256, .inl t_isHeld))] sz) := by
  refine gz_mi (cc := cX5_fewestWithoutPoint) (maxL := 4) (plainFor_of_name (by decide +kernel)) rfl (Nat.le_of_ble_eq_true rfl) ?_
  intro p e s m below meth c A QQ ls hx hb hml hown0 hts hK hN hA hP hD hS hl ret
  have hown : s.vm.findClass RX5 = some m.cls := hown0
  have hl : lv_has ls 4 [(0, .ref h_t), (1, .int x1)] := hl
  have L4 : ∀ (n : Nat) (x2 : Int32) (x3 : Int32) (H : Heap) (locs : List Loc) (ls : Array Slot), gi2 (p_X5_fewestWithoutPoint_4 t_isHeld x1 Q) n x2 x3 → va_P (dC, dI) vwCl [(h_t, .inr (2, [.ref h_t_tally, .ref h_t_holding, .ref h_t_isHeld, .int t_seenChanges])), (h_t_isHeld, .inl (cZ, 256, .inl t_isHeld))] H → va_D A [(h_t, .inr (2, [.ref h_t_tally, .ref h_t_holding, .ref h_t_isHeld, .int t_seenChanges])), (h_t_isHeld, .inl (cZ, 256, .inl t_isHeld))] → va_S A s.heap H locs → lv_has ls 4 [(0, .ref h_t), (1, .int x1), (2, .int x2), (3, .int x3)] → W p l e rm_X5_fewestWithoutPoint s m [.ref h_t, .int x1].toArray below meth c H locs 0 0 QQ (F0 m 4 ls []) := by
    intro  n
    induction n with
    | zero => intro x2 x3 H locs ls hf; exact False.elim hf
    | succ n ih4 =>
      generalize hK4 : gi2 (p_X5_fewestWithoutPoint_4 t_isHeld x1 Q) n = K4 at ih4
      have L30 : ∀ (x2 : Int32) (x3 : Int32) (H : Heap) (locs : List Loc) (ls : Array Slot), p_X5_fewestWithoutPoint_30 x2 x3 K4 → va_P (dC, dI) vwCl [(h_t, .inr (2, [.ref h_t_tally, .ref h_t_holding, .ref h_t_isHeld, .int t_seenChanges])), (h_t_isHeld, .inl (cZ, 256, .inl t_isHeld))] H → va_D A [(h_t, .inr (2, [.ref h_t_tally, .ref h_t_holding, .ref h_t_isHeld, .int t_seenChanges])), (h_t_isHeld, .inl (cZ, 256, .inl t_isHeld))] → va_S A s.heap H locs → lv_has ls 4 [(0, .ref h_t), (1, .int x1), (2, .int x2), (3, .int x3)] → W p l e rm_X5_fewestWithoutPoint s m [.ref h_t, .int x1].toArray below meth c H locs 0 0 QQ (F0 m 30 ls []) := by
        intro x2 x3 H locs ls hf hP hD hS hl
        refine lv_iinc (v := (x3 + (-1 : Int32))) (lv' := [(3, .int (x3 + (-1 : Int32))), (0, .ref h_t), (1, .int x1), (2, .int x2)]) hx hb dX5_fewestWithoutPoint_30 hl (k := 3) rfl rfl (by decide) rfl (fun ls hl => ?_)
        refine lv_goto (tgt := 4) hx hb dX5_fewestWithoutPoint_33 (by decide) ?_
        exact ih4 x2 (x3 + (-1 : Int32)) _ _ _ hf hP hD hS (lv_sub hl [1, 2, 3, 0] rfl)
      intro x2 x3 H locs ls hf hP hD hS hl
      have hf : p_X5_fewestWithoutPoint_4 t_isHeld x1 Q (gi2 (p_X5_fewestWithoutPoint_4 t_isHeld x1 Q) n) x2 x3 := hf
      rw [hK4] at hf
      refine lv_iload_n hx hb dX5_fewestWithoutPoint_4 rfl (lv_at hl 3 rfl) ?_
      refine lv_if_le (tgt := 36) hx hb dX5_fewestWithoutPoint_5 (by decide) (fun hc6 => ?_) (fun hc6 => ?_)
      · have hf := hf.1 hc6
        refine lv_iload_n hx hb dX5_fewestWithoutPoint_36 rfl (lv_at hl 2 rfl) ?_
        exact ret _ _ _ _ x2 () hf hP hD hS dX5_fewestWithoutPoint_37
      · have hf := hf.2 hc6
        refine lv_iload_n hx hb dX5_fewestWithoutPoint_8 rfl (lv_at hl 3 rfl) ?_
        refine gz_i0 (va_runS (As := [.int x3]) (rest := []) ⟨hx, hb, hml, hown, hts⟩ (c_J6_bitCount_0f7a4 l dC dI cI cJ cC cZ H.size x3 _ hf) (va_cwS 1 hts gX5_fewestWithoutPoint_J6_bitCount_0f7a4 rfl rfl rfl (by decide +kernel) ⟨Nat.le_of_ble_eq_true rfl, Nat.le_of_ble_eq_true rfl⟩) ⟨gz_blind, gz_pre (gz_P_of hP (is := []) (wc := []) rfl) hK (hD.sub [] (by decide) rfl) gz_N0⟩ rfl rfl hl.1 rfl (lv_room (Nat.le_of_ble_eq_true rfl)) dX5_fewestWithoutPoint_9 ⟨Nat.le_refl _, Nat.le_refl _⟩) hP hD hS hA (fun r1 H locs hf hP hS => ?_)
        refine lv_iload_n hx hb dX5_fewestWithoutPoint_12 rfl (lv_at hl 2 rfl) ?_
        refine gz_i0 (va_runS (As := [.int x2]) (rest := [.int r1]) ⟨hx, hb, hml, hown, hts⟩ (c_J6_bitCount_0f7a4 l dC dI cI cJ cC cZ H.size x2 _ hf) (va_cwS 1 hts gX5_fewestWithoutPoint_J6_bitCount_0f7a4 rfl rfl rfl (by decide +kernel) ⟨Nat.le_of_ble_eq_true rfl, Nat.le_of_ble_eq_true rfl⟩) ⟨gz_blind, gz_pre (gz_P_of hP (is := []) (wc := []) rfl) hK (hD.sub [] (by decide) rfl) gz_N0⟩ rfl rfl hl.1 rfl (lv_room (Nat.le_of_ble_eq_true rfl)) dX5_fewestWithoutPoint_13 ⟨Nat.le_refl _, Nat.le_refl _⟩) hP hD hS hA (fun r2 H locs hf hP hS => ?_)
        refine lv_icmp_gt (tgt := 30) hx hb dX5_fewestWithoutPoint_16 (by decide) (fun hc5 => ?_) (fun hc5 => ?_)
        · have hf := hf.1 hc5
          exact L30 x2 x3 _ _ _ hf hP hD hS hl
        · have hf := hf.2 hc5
          refine lv_aload_n hx hb dX5_fewestWithoutPoint_19 rfl (lv_at hl 0 rfl) ?_
          refine lv_iload_n hx hb dX5_fewestWithoutPoint_20 rfl (lv_at hl 3 rfl) ?_
          refine lv_iload_n hx hb dX5_fewestWithoutPoint_21 rfl (lv_at hl 1 rfl) ?_
          refine gz_iR (va_runV (As := [.int x3, .int x1]) (rest := []) ⟨hx, hb, hml, hown, hts⟩ (c_X5_leavesNoPoint l dC dI cI cJ cC cZ h_t h_t_tally h_t_holding h_t_isHeld H.size t_seenChanges t_isHeld x3 x1 _ hf) (cwV 2 hts gX5_fewestWithoutPoint_X5_leavesNoPoint rfl rfl rfl (by decide +kernel) ⟨Nat.le_of_ble_eq_true rfl, Nat.le_of_ble_eq_true rfl⟩) ⟨gz_blind, va_recv hK hP (ci := 2) (q0 := 0) rfl rfl, gz_pre (gz_P_of hP (is := [0, 1]) (wc := [(h_t, .inr (2, [.ref h_t_tally, .ref h_t_holding, .ref h_t_isHeld, .int t_seenChanges])), (h_t_isHeld, .inl (cZ, 256, .inl t_isHeld))]) rfl) hK (hD.sub [0, 1] (by decide) rfl) gz_N0⟩ rfl rfl hl.1 rfl (lv_room (Nat.le_of_ble_eq_true rfl)) dX5_fewestWithoutPoint_22 ⟨Nat.le_refl _, Nat.le_refl _⟩) hP hD hS hA [0, 1] rfl (fun r3 H locs hf hP hS => ?_)
          refine lv_if_eq (tgt := 30) hx hb dX5_fewestWithoutPoint_25 (by decide) (fun hc4 => ?_) (fun hc4 => ?_)
          · have hf := hf.1 hc4
            exact L30 x2 x3 _ _ _ hf hP hD hS hl
          · have hf := hf.2 hc4
            refine lv_iload_n hx hb dX5_fewestWithoutPoint_28 rfl (lv_at hl 3 rfl) ?_
            refine lv_istore_n (lv' := [(2, .int x3), (0, .ref h_t), (1, .int x1), (3, .int x3)]) hx hb dX5_fewestWithoutPoint_29 rfl hl (by decide) rfl (fun ls hl => ?_)
            exact L30 x3 x3 _ _ _ hf hP hD hS (lv_sub hl [1, 2, 0, 3] rfl)
  have hf := hw
  refine lv_iload_n hx hb dX5_fewestWithoutPoint_0 rfl (lv_at hl 1 rfl) ?_
  refine lv_istore_n (lv' := [(2, .int x1), (0, .ref h_t), (1, .int x1)]) hx hb dX5_fewestWithoutPoint_1 rfl hl (by decide) rfl (fun ls hl => ?_)
  refine lv_iload_n hx hb dX5_fewestWithoutPoint_2 rfl (lv_at hl 2 rfl) ?_
  refine lv_istore_n (lv' := [(3, .int x1), (2, .int x1), (0, .ref h_t), (1, .int x1)]) hx hb dX5_fewestWithoutPoint_3 rfl hl (by decide) rfl (fun ls hl => ?_)
  obtain ⟨n, hf⟩ := hf
  exact L4  n x1 x1 _ _ _ hf hP hD hS (lv_sub hl [2, 3, 1, 0] rfl)
abbrev rm_X5_leastCore : Room := { frames := 4, cells := 0, slots := 0, locals := 96 }
set_option maxHeartbeats 4000000 in
set_option maxRecDepth 100000 in
theorem c_X5_leastCore (l : Launch) (dC : Nat → ClassId) (dI : Nat → Nat → Nat) (cI cJ cC cZ : ClassId) (h_t h_t_tally h_t_holding h_t_isHeld h_a1 h_a1_cells : Nat) (sz : Nat) (t_seenChanges : Int32) (t_holding : Nat → Int32) (t_isHeld : Nat → Int32) (a1_size : Int32) (a1_most : Int32) (a1_draw : Int32) (a1_changes : Int32) (a1_cells : Nat → Int32) (Q : Int32 → Int32 → (Nat → Int32) → (Nat → Int32) → Prop) (hw : p_X5_leastCore t_seenChanges t_holding t_isHeld a1_size a1_most a1_changes a1_cells Q) : Met l yX5_leastCore wsX5_leastCore rm_X5_leastCore (va_Pc [.ref h_t, .ref h_a1] (gz_B (dC, dI) (gz_T cI cJ cC cZ) [] sz [(h_t, .inr (2, [.ref h_t_tally, .ref h_t_holding, .ref h_t_isHeld, .int t_seenChanges])), (h_t_holding, .inl (cI, 4096, .inl t_holding)), (h_t_isHeld, .inl (cZ, 256, .inl t_isHeld)), (h_a1, .inr (6, [.ref h_a1_cells, .int a1_size, .int a1_most, .int a1_draw, .int a1_changes])), (h_a1_cells, .inl (cI, 48, .inl a1_cells))])) (va_Qi (fun (r : Int32) (u : Int32 × (Nat → Int32) × (Nat → Int32)) => Q r u.1 u.2.1 u.2.2) (fun u t => gz_E (dC, dI) (gz_T cI cJ cC cZ) (va_A [(h_t, .inr (2, [.ref h_t_tally, .ref h_t_holding, .ref h_t_isHeld, .int t_seenChanges])), (h_t_holding, .inl (cI, 4096, .inl t_holding)), (h_t_isHeld, .inl (cZ, 256, .inl t_isHeld)), (h_a1, .inr (6, [.ref h_a1_cells, .int a1_size, .int a1_most, .int a1_draw, .int a1_changes])), (h_a1_cells, .inl (cI, 48, .inl a1_cells))] sz) [(h_t, .inr (2, [.ref h_t_tally, .ref h_t_holding, .ref h_t_isHeld, .int u.1])), (h_t_holding, .inl (cI, 4096, .inl u.2.1)), (h_t_isHeld, .inl (cZ, 256, .inl u.2.2)), (h_a1, .inr (6, [.ref h_a1_cells, .int a1_size, .int a1_most, .int a1_draw, .int a1_changes])), (h_a1_cells, .inl (cI, 48, .inl a1_cells))] t) (va_A [(h_t, .inr (2, [.ref h_t_tally, .ref h_t_holding, .ref h_t_isHeld, .int t_seenChanges])), (h_t_holding, .inl (cI, 4096, .inl t_holding)), (h_t_isHeld, .inl (cZ, 256, .inl t_isHeld)), (h_a1, .inr (6, [.ref h_a1_cells, .int a1_size, .int a1_most, .int a1_draw, .int a1_changes])), (h_a1_cells, .inl (cI, 48, .inl a1_cells))] sz)) 0 0 (va_A [(h_t, .inr (2, [.ref h_t_tally, .ref h_t_holding, .ref h_t_isHeld, .int t_seenChanges])), (h_t_holding, .inl (cI, 4096, .inl t_holding)), (h_t_isHeld, .inl (cZ, 256, .inl t_isHeld)), (h_a1, .inr (6, [.ref h_a1_cells, .int a1_size, .int a1_most, .int a1_draw, .int a1_changes])), (h_a1_cells, .inl (cI, 48, .inl a1_cells))] sz) := by
  refine gz_mi (cc := cX5_leastCore) (maxL := 4) (plainFor_of_name (by decide +kernel)) rfl (Nat.le_of_ble_eq_true rfl) ?_
  intro p e s m below meth c A QQ ls hx hb hml hown0 hts hK hN hA hP hD hS hl ret
  have hown : s.vm.findClass RX5 = some m.cls := hown0
  have hl : lv_has ls 4 [(0, .ref h_t), (1, .ref h_a1)] := hl
  have q0 := hts (.fieldLink RX5 18 "DarkShadows$Search" "isHeld" "[Z") (List.mem_cons_of_mem _ (List.mem_append_left _ (List.mem_append_left _ (List.mem_append_left _ (List.mem_of_getElem? (i := 0) rfl)))))
  have hinX5 : ∀ w ∈ wsX50, w ∈ wsX5_leastCore := fun w h => List.mem_cons_of_mem _ (List.mem_append_left _ (List.mem_append_right _ h))
  have q2 := hts (.fieldLink RX5 15 "DarkShadows$Search" "holding" "[I") (List.mem_cons_of_mem _ (List.mem_append_left _ (List.mem_append_left _ (List.mem_append_left _ (List.mem_of_getElem? (i := 1) rfl)))))
  have L32 : ∀ (x2 : Int32) (t_seenChanges : Int32) (t_holding : Nat → Int32) (n : Nat) (x3 : Int32) (t_isHeld : Nat → Int32) (H : Heap) (locs : List Loc) (ls : Array Slot), gi2 (p_X5_leastCore_32 t_seenChanges t_holding x2 Q) n x3 t_isHeld → va_P (dC, dI) vwCl [(h_t, .inr (2, [.ref h_t_tally, .ref h_t_holding, .ref h_t_isHeld, .int t_seenChanges])), (h_t_holding, .inl (cI, 4096, .inl t_holding)), (h_t_isHeld, .inl (cZ, 256, .inl t_isHeld)), (h_a1, .inr (6, [.ref h_a1_cells, .int a1_size, .int a1_most, .int a1_draw, .int a1_changes])), (h_a1_cells, .inl (cI, 48, .inl a1_cells))] H → va_D A [(h_t, .inr (2, [.ref h_t_tally, .ref h_t_holding, .ref h_t_isHeld, .int t_seenChanges])), (h_t_holding, .inl (cI, 4096, .inl t_holding)), (h_t_isHeld, .inl (cZ, 256, .inl t_isHeld)), (h_a1, .inr (6, [.ref h_a1_cells, .int a1_size, .int a1_most, .int a1_draw, .int a1_changes])), (h_a1_cells, .inl (cI, 48, .inl a1_cells))] → va_S A s.heap H locs → lv_has ls 4 [(0, .ref h_t), (2, .int x2), (3, .int x3)] → W p l e rm_X5_leastCore s m [.ref h_t, .ref h_a1].toArray below meth c H locs 0 0 QQ (F0 m 32 ls []) := by
    intro x2 t_seenChanges t_holding n
    induction n with
    | zero => intro x3 t_isHeld H locs ls hf; exact False.elim hf
    | succ n ih32 =>
      generalize hK32 : gi2 (p_X5_leastCore_32 t_seenChanges t_holding x2 Q) n = K32 at ih32
      have L61 : ∀ (x3 : Int32) (t_isHeld : Nat → Int32) (H : Heap) (locs : List Loc) (ls : Array Slot), p_X5_leastCore_61 t_isHeld x3 K32 → va_P (dC, dI) vwCl [(h_t, .inr (2, [.ref h_t_tally, .ref h_t_holding, .ref h_t_isHeld, .int t_seenChanges])), (h_t_holding, .inl (cI, 4096, .inl t_holding)), (h_t_isHeld, .inl (cZ, 256, .inl t_isHeld)), (h_a1, .inr (6, [.ref h_a1_cells, .int a1_size, .int a1_most, .int a1_draw, .int a1_changes])), (h_a1_cells, .inl (cI, 48, .inl a1_cells))] H → va_D A [(h_t, .inr (2, [.ref h_t_tally, .ref h_t_holding, .ref h_t_isHeld, .int t_seenChanges])), (h_t_holding, .inl (cI, 4096, .inl t_holding)), (h_t_isHeld, .inl (cZ, 256, .inl t_isHeld)), (h_a1, .inr (6, [.ref h_a1_cells, .int a1_size, .int a1_most, .int a1_draw, .int a1_changes])), (h_a1_cells, .inl (cI, 48, .inl a1_cells))] → va_S A s.heap H locs → lv_has ls 4 [(0, .ref h_t), (2, .int x2), (3, .int x3)] → W p l e rm_X5_leastCore s m [.ref h_t, .ref h_a1].toArray below meth c H locs 0 0 QQ (F0 m 61 ls []) := by
        intro x3 t_isHeld H locs ls hf hP hD hS hl
        refine lv_iinc (v := (x3 + (1 : Int32))) (lv' := [(3, .int (x3 + (1 : Int32))), (0, .ref h_t), (2, .int x2)]) hx hb dX5_leastCore_61 hl (k := 2) rfl rfl (by decide) rfl (fun ls hl => ?_)
        refine lv_goto (tgt := 32) hx hb dX5_leastCore_64 (by decide) ?_
        exact ih32 (x3 + (1 : Int32)) t_isHeld _ _ _ hf hP hD hS (lv_sub hl [1, 2, 0] rfl)
      intro x3 t_isHeld H locs ls hf hP hD hS hl
      have hf : p_X5_leastCore_32 t_seenChanges t_holding x2 Q (gi2 (p_X5_leastCore_32 t_seenChanges t_holding x2 Q) n) x3 t_isHeld := hf
      rw [hK32] at hf
      refine lv_iload_n hx hb dX5_leastCore_32 rfl (lv_at hl 2 rfl) ?_
      refine lv_sipush (v := (4095 : Int32)) hx hb dX5_leastCore_33 (by decide) ?_
      refine lv_icmp_gt (tgt := 67) hx hb dX5_leastCore_36 (by decide) (fun hc11 => ?_) (fun hc11 => ?_)
      · have hf := hf.1 hc11
        refine lv_aload_n hx hb dX5_leastCore_67 rfl (lv_at hl 0 rfl) ?_
        refine va_get (D := (dC, dI)) (ci := 2) (v := .ref h_t_isHeld) (C := RX5) (T := TX5) (N := 4) hx hb hts hinX5 hown hK hP 0 rfl rfl 2 (by decide) q0 (fun _ h9 => h9) rfl dX5_leastCore_68 ?_
        refine lv_iload_n hx hb dX5_leastCore_71 rfl (lv_at hl 1 rfl) ?_
        obtain ⟨hb4, hf⟩ := hf
        refine va_zald hx hb hK hP 2 3 rfl rfl hb4 dX5_leastCore_72 ?_
        refine lv_if_eq (tgt := 80) hx hb dX5_leastCore_73 (by decide) (fun hc6 => ?_) (fun hc6 => ?_)
        · have hf := hf.1 hc6
          refine lv_aload_n hx hb dX5_leastCore_80 rfl (lv_at hl 0 rfl) ?_
          refine lv_iload_n hx hb dX5_leastCore_81 rfl (lv_at hl 1 rfl) ?_
          refine gz_iR (va_runV (As := [.int x2]) (rest := []) ⟨hx, hb, hml, hown, hts⟩ (c_X5_fewestWithoutPoint l dC dI cI cJ cC cZ h_t h_t_tally h_t_holding h_t_isHeld H.size t_seenChanges t_isHeld x2 _ hf) (cwV 1 hts gX5_leastCore_X5_fewestWithoutPoint rfl rfl rfl (by decide +kernel) ⟨Nat.le_of_ble_eq_true rfl, Nat.le_of_ble_eq_true rfl⟩) ⟨gz_blind, va_recv hK hP (ci := 2) (q0 := 0) rfl rfl, gz_pre (gz_P_of hP (is := [0, 2]) (wc := [(h_t, .inr (2, [.ref h_t_tally, .ref h_t_holding, .ref h_t_isHeld, .int t_seenChanges])), (h_t_isHeld, .inl (cZ, 256, .inl t_isHeld))]) rfl) hK (hD.sub [0, 2] (by decide) rfl) gz_N0⟩ rfl rfl hl.1 rfl (lv_room (Nat.le_of_ble_eq_true rfl)) dX5_leastCore_82 ⟨Nat.le_refl _, Nat.le_refl _⟩) hP hD hS hA [0, 2] rfl (fun r5 H locs hf hP hS => ?_)
          exact ret _ _ _ _ r5 (t_seenChanges, t_holding, t_isHeld) hf hP hD hS dX5_leastCore_85
        · have hf := hf.2 hc6
          refine lv_iconst (v := (0 : Int32)) hx hb dX5_leastCore_76 (by decide) ?_
          refine lv_goto (tgt := 85) hx hb dX5_leastCore_77 (by decide) ?_
          exact ret _ _ _ _ (0 : Int32) (t_seenChanges, t_holding, t_isHeld) hf hP hD hS dX5_leastCore_85
      · have hf := hf.2 hc11
        refine lv_aload_n hx hb dX5_leastCore_39 rfl (lv_at hl 0 rfl) ?_
        refine va_get (D := (dC, dI)) (ci := 2) (v := .ref h_t_holding) (C := RX5) (T := TX5) (N := 4) hx hb hts hinX5 hown hK hP 0 rfl rfl 1 (by decide) q2 (fun _ h9 => h9) rfl dX5_leastCore_40 ?_
        refine lv_iload_n hx hb dX5_leastCore_43 rfl (lv_at hl 2 rfl) ?_
        obtain ⟨hb7, hf⟩ := hf
        refine va_iald hx hb hK hP 1 0 rfl rfl hb7 dX5_leastCore_44 ?_
        refine lv_iconst (v := (-1 : Int32)) hx hb dX5_leastCore_45 (by decide) ?_
        refine lv_icmp_eq (tgt := 61) hx hb dX5_leastCore_46 (by decide) (fun hc10 => ?_) (fun hc10 => ?_)
        · have hf := hf.1 hc10
          exact L61 x3 t_isHeld _ _ _ hf hP hD hS hl
        · have hf := hf.2 hc10
          refine lv_aload_n hx hb dX5_leastCore_49 rfl (lv_at hl 0 rfl) ?_
          refine va_get (D := (dC, dI)) (ci := 2) (v := .ref h_t_isHeld) (C := RX5) (T := TX5) (N := 4) hx hb hts hinX5 hown hK hP 0 rfl rfl 2 (by decide) q0 (fun _ h9 => h9) rfl dX5_leastCore_50 ?_
          refine lv_aload_n hx hb dX5_leastCore_53 rfl (lv_at hl 0 rfl) ?_
          refine va_get (D := (dC, dI)) (ci := 2) (v := .ref h_t_holding) (C := RX5) (T := TX5) (N := 4) hx hb hts hinX5 hown hK hP 0 rfl rfl 1 (by decide) q2 (fun _ h9 => h9) rfl dX5_leastCore_54 ?_
          refine lv_iload_n hx hb dX5_leastCore_57 rfl (lv_at hl 2 rfl) ?_
          obtain ⟨hb8, hf⟩ := hf
          refine va_iald hx hb hK hP 1 0 rfl rfl hb8 dX5_leastCore_58 ?_
          refine lv_iconst (v := (1 : Int32)) hx hb dX5_leastCore_59 (by decide) ?_
          obtain ⟨hb9, hf⟩ := hf
          refine va_zast hx hb hK hP hD hS 2 3 rfl rfl hb9 dX5_leastCore_60 (fun H locs hP hD hS => ?_)
          have hP : va_P (dC, dI) vwCl [(h_t, .inr (2, [.ref h_t_tally, .ref h_t_holding, .ref h_t_isHeld, .int t_seenChanges])), (h_t_holding, .inl (cI, 4096, .inl t_holding)), (h_t_isHeld, .inl (cZ, 256, .inl (upd t_isHeld (t_holding x3.toNatClampNeg).toNatClampNeg (vp_nar .boolean (1 : Int32))))), (h_a1, .inr (6, [.ref h_a1_cells, .int a1_size, .int a1_most, .int a1_draw, .int a1_changes])), (h_a1_cells, .inl (cI, 48, .inl a1_cells))] H := hP
          have hD : va_D A [(h_t, .inr (2, [.ref h_t_tally, .ref h_t_holding, .ref h_t_isHeld, .int t_seenChanges])), (h_t_holding, .inl (cI, 4096, .inl t_holding)), (h_t_isHeld, .inl (cZ, 256, .inl (upd t_isHeld (t_holding x3.toNatClampNeg).toNatClampNeg (vp_nar .boolean (1 : Int32))))), (h_a1, .inr (6, [.ref h_a1_cells, .int a1_size, .int a1_most, .int a1_draw, .int a1_changes])), (h_a1_cells, .inl (cI, 48, .inl a1_cells))] := hD
          exact L61 x3 (upd t_isHeld (t_holding x3.toNatClampNeg).toNatClampNeg (vp_nar .boolean (1 : Int32))) _ _ _ hf hP hD hS hl
  have L12 : ∀ (x2 : Int32) (t_seenChanges : Int32) (t_holding : Nat → Int32) (n : Nat) (x3 : Int32) (t_isHeld : Nat → Int32) (H : Heap) (locs : List Loc) (ls : Array Slot), gi2 (p_X5_leastCore_12 t_seenChanges t_holding x2 Q) n x3 t_isHeld → va_P (dC, dI) vwCl [(h_t, .inr (2, [.ref h_t_tally, .ref h_t_holding, .ref h_t_isHeld, .int t_seenChanges])), (h_t_holding, .inl (cI, 4096, .inl t_holding)), (h_t_isHeld, .inl (cZ, 256, .inl t_isHeld)), (h_a1, .inr (6, [.ref h_a1_cells, .int a1_size, .int a1_most, .int a1_draw, .int a1_changes])), (h_a1_cells, .inl (cI, 48, .inl a1_cells))] H → va_D A [(h_t, .inr (2, [.ref h_t_tally, .ref h_t_holding, .ref h_t_isHeld, .int t_seenChanges])), (h_t_holding, .inl (cI, 4096, .inl t_holding)), (h_t_isHeld, .inl (cZ, 256, .inl t_isHeld)), (h_a1, .inr (6, [.ref h_a1_cells, .int a1_size, .int a1_most, .int a1_draw, .int a1_changes])), (h_a1_cells, .inl (cI, 48, .inl a1_cells))] → va_S A s.heap H locs → lv_has ls 4 [(0, .ref h_t), (2, .int x2), (3, .int x3)] → W p l e rm_X5_leastCore s m [.ref h_t, .ref h_a1].toArray below meth c H locs 0 0 QQ (F0 m 12 ls []) := by
    intro x2 t_seenChanges t_holding n
    induction n with
    | zero => intro x3 t_isHeld H locs ls hf; exact False.elim hf
    | succ n ih12 =>
      generalize hK12 : gi2 (p_X5_leastCore_12 t_seenChanges t_holding x2 Q) n = K12 at ih12
      intro x3 t_isHeld H locs ls hf hP hD hS hl
      have hf : p_X5_leastCore_12 t_seenChanges t_holding x2 Q (gi2 (p_X5_leastCore_12 t_seenChanges t_holding x2 Q) n) x3 t_isHeld := hf
      rw [hK12] at hf
      refine lv_iload_n hx hb dX5_leastCore_12 rfl (lv_at hl 2 rfl) ?_
      refine lv_iload_n hx hb dX5_leastCore_13 rfl (lv_at hl 1 rfl) ?_
      refine lv_icmp_gt (tgt := 30) hx hb dX5_leastCore_14 (by decide) (fun hc13 => ?_) (fun hc13 => ?_)
      · have hf := hf.1 hc13
        refine lv_iconst (v := (0 : Int32)) hx hb dX5_leastCore_30 (by decide) ?_
        refine lv_istore_n (lv' := [(3, .int (0 : Int32)), (0, .ref h_t), (2, .int x2)]) hx hb dX5_leastCore_31 rfl hl (by decide) rfl (fun ls hl => ?_)
        obtain ⟨n, hf⟩ := hf
        exact L32 x2 t_seenChanges t_holding n (0 : Int32) t_isHeld _ _ _ hf hP hD hS (lv_sub hl [1, 2, 0] rfl)
      · have hf := hf.2 hc13
        refine lv_aload_n hx hb dX5_leastCore_17 rfl (lv_at hl 0 rfl) ?_
        refine va_get (D := (dC, dI)) (ci := 2) (v := .ref h_t_isHeld) (C := RX5) (T := TX5) (N := 4) hx hb hts hinX5 hown hK hP 0 rfl rfl 2 (by decide) q0 (fun _ h9 => h9) rfl dX5_leastCore_18 ?_
        refine lv_iload_n hx hb dX5_leastCore_21 rfl (lv_at hl 2 rfl) ?_
        refine lv_iconst (v := (0 : Int32)) hx hb dX5_leastCore_22 (by decide) ?_
        obtain ⟨hb12, hf⟩ := hf
        refine va_zast hx hb hK hP hD hS 2 3 rfl rfl hb12 dX5_leastCore_23 (fun H locs hP hD hS => ?_)
        have hP : va_P (dC, dI) vwCl [(h_t, .inr (2, [.ref h_t_tally, .ref h_t_holding, .ref h_t_isHeld, .int t_seenChanges])), (h_t_holding, .inl (cI, 4096, .inl t_holding)), (h_t_isHeld, .inl (cZ, 256, .inl (upd t_isHeld x3.toNatClampNeg (vp_nar .boolean (0 : Int32))))), (h_a1, .inr (6, [.ref h_a1_cells, .int a1_size, .int a1_most, .int a1_draw, .int a1_changes])), (h_a1_cells, .inl (cI, 48, .inl a1_cells))] H := hP
        have hD : va_D A [(h_t, .inr (2, [.ref h_t_tally, .ref h_t_holding, .ref h_t_isHeld, .int t_seenChanges])), (h_t_holding, .inl (cI, 4096, .inl t_holding)), (h_t_isHeld, .inl (cZ, 256, .inl (upd t_isHeld x3.toNatClampNeg (vp_nar .boolean (0 : Int32))))), (h_a1, .inr (6, [.ref h_a1_cells, .int a1_size, .int a1_most, .int a1_draw, .int a1_changes])), (h_a1_cells, .inl (cI, 48, .inl a1_cells))] := hD
        refine lv_iinc (v := (x3 + (1 : Int32))) (lv' := [(3, .int (x3 + (1 : Int32))), (0, .ref h_t), (2, .int x2)]) hx hb dX5_leastCore_24 hl (k := 2) rfl rfl (by decide) rfl (fun ls hl => ?_)
        refine lv_goto (tgt := 12) hx hb dX5_leastCore_27 (by decide) ?_
        exact ih12 (x3 + (1 : Int32)) (upd t_isHeld x3.toNatClampNeg (vp_nar .boolean (0 : Int32))) _ _ _ hf hP hD hS (lv_sub hl [1, 2, 0] rfl)
  have hf := hw
  refine lv_aload_n hx hb dX5_leastCore_0 rfl (lv_at hl 0 rfl) ?_
  refine lv_aload_n hx hb dX5_leastCore_1 rfl (lv_at hl 1 rfl) ?_
  refine gz_v (W1 := (fun u : Int32 × (Nat → Int32) => [(h_t, .inr (2, [.ref h_t_tally, .ref h_t_holding, .ref h_t_isHeld, .int u.1])), (h_t_holding, .inl (cI, 4096, .inl u.2)), (h_a1, .inr (6, [.ref h_a1_cells, .int a1_size, .int a1_most, .int a1_draw, .int a1_changes])), (h_a1_cells, .inl (cI, 48, .inl a1_cells))])) (wn := (fun u : Int32 × (Nat → Int32) => [(h_t, .inr (2, [.ref h_t_tally, .ref h_t_holding, .ref h_t_isHeld, .int u.1])), (h_t_holding, .inl (cI, 4096, .inl u.2)), (h_t_isHeld, .inl (cZ, 256, .inl t_isHeld)), (h_a1, .inr (6, [.ref h_a1_cells, .int a1_size, .int a1_most, .int a1_draw, .int a1_changes])), (h_a1_cells, .inl (cI, 48, .inl a1_cells))])) (wr := [(h_t_isHeld, .inl (cZ, 256, .inl t_isHeld))]) (va_runV (As := [.ref h_a1]) (rest := []) ⟨hx, hb, hml, hown, hts⟩ (c_X5_lookAt l dC dI cI cJ cC cZ h_t h_t_tally h_t_holding h_t_isHeld h_a1 h_a1_cells s.heap.size t_seenChanges t_holding a1_size a1_most a1_draw a1_changes a1_cells _ hf) (cwV 1 hts gX5_leastCore_X5_lookAt rfl rfl rfl (by decide +kernel) ⟨Nat.le_of_ble_eq_true rfl, Nat.le_of_ble_eq_true rfl⟩) ⟨gz_blind, va_recv hK hP (ci := 2) (q0 := 0) rfl rfl, gz_pre (gz_P_of hP (is := [0, 1, 3, 4]) (wc := [(h_t, .inr (2, [.ref h_t_tally, .ref h_t_holding, .ref h_t_isHeld, .int t_seenChanges])), (h_t_holding, .inl (cI, 4096, .inl t_holding)), (h_a1, .inr (6, [.ref h_a1_cells, .int a1_size, .int a1_most, .int a1_draw, .int a1_changes])), (h_a1_cells, .inl (cI, 48, .inl a1_cells))]) rfl) hK (hD.sub [0, 1, 3, 4] (by decide) rfl) gz_N0⟩ rfl rfl hl.1 rfl (lv_room (Nat.le_of_ble_eq_true rfl)) dX5_leastCore_2 ⟨Nat.le_refl _, Nat.le_refl _⟩) hP hD hS hA [0, 1, 3, 4] [2] [1, 2, 0, 3, 4] rfl rfl (by decide) (by decide) (fun _ => rfl) (by decide) (fun  u H locs hf hP hD hS => ?_)
  obtain ⟨y1, y2⟩ := u
  have hP : va_P (dC, dI) vwCl [(h_t, .inr (2, [.ref h_t_tally, .ref h_t_holding, .ref h_t_isHeld, .int y1])), (h_t_holding, .inl (cI, 4096, .inl y2)), (h_t_isHeld, .inl (cZ, 256, .inl t_isHeld)), (h_a1, .inr (6, [.ref h_a1_cells, .int a1_size, .int a1_most, .int a1_draw, .int a1_changes])), (h_a1_cells, .inl (cI, 48, .inl a1_cells))] H := hP
  have hD : va_D A [(h_t, .inr (2, [.ref h_t_tally, .ref h_t_holding, .ref h_t_isHeld, .int y1])), (h_t_holding, .inl (cI, 4096, .inl y2)), (h_t_isHeld, .inl (cZ, 256, .inl t_isHeld)), (h_a1, .inr (6, [.ref h_a1_cells, .int a1_size, .int a1_most, .int a1_draw, .int a1_changes])), (h_a1_cells, .inl (cI, 48, .inl a1_cells))] := hD
  refine lv_aload_n hx hb dX5_leastCore_5 rfl (lv_at hl 1 rfl) ?_
  refine gz_iR (va_runV (As := []) (rest := []) ⟨hx, hb, hml, hown, hts⟩ (c_X9_all l dC dI cI cJ cC cZ h_a1 h_a1_cells H.size a1_size a1_most a1_draw a1_changes _ hf) (cwV 0 hts gX5_leastCore_X9_all rfl rfl rfl (by decide +kernel) ⟨Nat.le_of_ble_eq_true rfl, Nat.le_of_ble_eq_true rfl⟩) ⟨gz_blind, va_recv hK hP (ci := 6) (q0 := 3) rfl rfl, gz_pre (gz_P_of hP (is := [3]) (wc := [(h_a1, .inr (6, [.ref h_a1_cells, .int a1_size, .int a1_most, .int a1_draw, .int a1_changes]))]) rfl) hK (hD.sub [3] (by decide) rfl) gz_N0⟩ rfl rfl hl.1 rfl (lv_room (Nat.le_of_ble_eq_true rfl)) dX5_leastCore_6 ⟨Nat.le_refl _, Nat.le_refl _⟩) hP hD hS hA [3] rfl (fun r3 H locs hf hP hS => ?_)
  refine lv_istore_n (lv' := [(2, .int r3), (0, .ref h_t), (1, .ref h_a1)]) hx hb dX5_leastCore_9 rfl hl (by decide) rfl (fun ls hl => ?_)
  refine lv_iconst (v := (0 : Int32)) hx hb dX5_leastCore_10 (by decide) ?_
  refine lv_istore_n (lv' := [(3, .int (0 : Int32)), (2, .int r3), (0, .ref h_t), (1, .ref h_a1)]) hx hb dX5_leastCore_11 rfl hl (by decide) rfl (fun ls hl => ?_)
  obtain ⟨n, hf⟩ := hf
  exact L12 r3 y1 y2 n (0 : Int32) t_isHeld _ _ _ hf hP hD hS (lv_sub hl [2, 1, 0] rfl)
abbrev rm_X6_gatherRows : Room := { frames := 2, cells := 0, slots := 0, locals := 46 }
set_option maxHeartbeats 4000000 in
set_option maxRecDepth 100000 in
theorem c_X6_gatherRows (l : Launch) (dC : Nat → ClassId) (dI : Nat → Nat → Nat) (cI cJ cC cZ : ClassId) (h_t h_t_source h_t_real h_t_dark h_t_source_cells h_a1 h_a1_cells : Nat) (sz : Nat) (n_t_source_cells : Nat) (t_source_size : Int32) (t_source_cells : Nat → Int32) (a1_size : Int32) (a1_most : Int32) (a1_draw : Int32) (a1_changes : Int32) (a1_cells : Nat → Int32) (x2 : Int32) (Q : Int32 → (Nat → Int32) → Prop) (hw : p_X6_gatherRows n_t_source_cells t_source_size t_source_cells a1_size a1_most a1_cells x2 Q) : Met l yX6_gatherRows wsX6_gatherRows rm_X6_gatherRows (va_Pc [.ref h_t, .ref h_a1, .int x2] (gz_B (dC, dI) (gz_T cI cJ cC cZ) [] sz [(h_t, .inr (3, [.ref h_t_source, .ref h_t_real, .ref h_t_dark])), (h_t_source, .inr (1, [.ref h_t_source_cells, .int t_source_size])), (h_t_source_cells, .inl (cI, n_t_source_cells, .inl t_source_cells)), (h_a1, .inr (6, [.ref h_a1_cells, .int a1_size, .int a1_most, .int a1_draw, .int a1_changes])), (h_a1_cells, .inl (cI, 48, .inl a1_cells))])) (va_Qv (fun (u : Int32 × (Nat → Int32)) => Q u.1 u.2) (fun u t => gz_E (dC, dI) (gz_T cI cJ cC cZ) (va_A [(h_t, .inr (3, [.ref h_t_source, .ref h_t_real, .ref h_t_dark])), (h_t_source, .inr (1, [.ref h_t_source_cells, .int t_source_size])), (h_t_source_cells, .inl (cI, n_t_source_cells, .inl t_source_cells)), (h_a1, .inr (6, [.ref h_a1_cells, .int a1_size, .int a1_most, .int a1_draw, .int a1_changes])), (h_a1_cells, .inl (cI, 48, .inl a1_cells))] sz) [(h_t, .inr (3, [.ref h_t_source, .ref h_t_real, .ref h_t_dark])), (h_t_source, .inr (1, [.ref h_t_source_cells, .int u.1])), (h_t_source_cells, .inl (cI, n_t_source_cells, .inl u.2)), (h_a1, .inr (6, [.ref h_a1_cells, .int a1_size, .int a1_most, .int a1_draw, .int a1_changes])), (h_a1_cells, .inl (cI, 48, .inl a1_cells))] t) (va_A [(h_t, .inr (3, [.ref h_t_source, .ref h_t_real, .ref h_t_dark])), (h_t_source, .inr (1, [.ref h_t_source_cells, .int t_source_size])), (h_t_source_cells, .inl (cI, n_t_source_cells, .inl t_source_cells)), (h_a1, .inr (6, [.ref h_a1_cells, .int a1_size, .int a1_most, .int a1_draw, .int a1_changes])), (h_a1_cells, .inl (cI, 48, .inl a1_cells))] sz)) 0 0 (va_A [(h_t, .inr (3, [.ref h_t_source, .ref h_t_real, .ref h_t_dark])), (h_t_source, .inr (1, [.ref h_t_source_cells, .int t_source_size])), (h_t_source_cells, .inl (cI, n_t_source_cells, .inl t_source_cells)), (h_a1, .inr (6, [.ref h_a1_cells, .int a1_size, .int a1_most, .int a1_draw, .int a1_changes])), (h_a1_cells, .inl (cI, 48, .inl a1_cells))] sz) := by
  refine gz_mv (cc := cX6_gatherRows) (maxL := 5) (plainFor_of_name (by decide +kernel)) rfl (Nat.le_of_ble_eq_true rfl) ?_
  intro p e s m below meth c A QQ ls hx hb hml hown0 hts hK hN hA hP hD hS hl ret
  have hown : s.vm.findClass RX6 = some m.cls := hown0
  have hl : lv_has ls 5 [(0, .ref h_t), (1, .ref h_a1), (2, .int x2)] := hl
  have q0 := hts (.fieldLink RX6 16 "DarkShadows$Shade" "source" "LDarkShadows$Rows;") (List.mem_cons_of_mem _ (List.mem_append_left _ (List.mem_append_left _ (List.mem_append_left _ (List.mem_of_getElem? (i := 0) rfl)))))
  have hinX6 : ∀ w ∈ wsX60, w ∈ wsX6_gatherRows := fun w h => List.mem_cons_of_mem _ (List.mem_append_left _ (List.mem_append_left _ (List.mem_append_right _ h)))
  have q2 := hts (.fieldLink RX6 68 "DarkShadows$Rows" "size" "I") (List.mem_cons_of_mem _ (List.mem_append_left _ (List.mem_append_left _ (List.mem_append_left _ (List.mem_of_getElem? (i := 1) rfl)))))
  have q3 := hts (.fieldLink RX6 71 "DarkShadows$Told" "size" "I") (List.mem_cons_of_mem _ (List.mem_append_left _ (List.mem_append_left _ (List.mem_append_left _ (List.mem_of_getElem? (i := 2) rfl)))))
  have hinX9 : ∀ w ∈ wsX90, w ∈ wsX6_gatherRows := fun w h => List.mem_cons_of_mem _ (List.mem_append_right _ h)
  have q5 := hts (.fieldLink RX6 60 "DarkShadows$Told" "most" "I") (List.mem_cons_of_mem _ (List.mem_append_left _ (List.mem_append_left _ (List.mem_append_left _ (List.mem_of_getElem? (i := 3) rfl)))))
  have hinX4 : ∀ w ∈ wsX40, w ∈ wsX6_gatherRows := fun w h => List.mem_cons_of_mem _ (List.mem_append_left _ (List.mem_append_right _ h))
  have L10 : ∀ (n : Nat) (x3 : Int32) (t_source_size : Int32) (t_source_cells : Nat → Int32) (H : Heap) (locs : List Loc) (ls : Array Slot), gi3 (p_X6_gatherRows_10 n_t_source_cells a1_size a1_most a1_cells x2 Q) n x3 t_source_size t_source_cells → va_P (dC, dI) vwCl [(h_t, .inr (3, [.ref h_t_source, .ref h_t_real, .ref h_t_dark])), (h_t_source, .inr (1, [.ref h_t_source_cells, .int t_source_size])), (h_t_source_cells, .inl (cI, n_t_source_cells, .inl t_source_cells)), (h_a1, .inr (6, [.ref h_a1_cells, .int a1_size, .int a1_most, .int a1_draw, .int a1_changes])), (h_a1_cells, .inl (cI, 48, .inl a1_cells))] H → va_D A [(h_t, .inr (3, [.ref h_t_source, .ref h_t_real, .ref h_t_dark])), (h_t_source, .inr (1, [.ref h_t_source_cells, .int t_source_size])), (h_t_source_cells, .inl (cI, n_t_source_cells, .inl t_source_cells)), (h_a1, .inr (6, [.ref h_a1_cells, .int a1_size, .int a1_most, .int a1_draw, .int a1_changes])), (h_a1_cells, .inl (cI, 48, .inl a1_cells))] → va_S A s.heap H locs → lv_has ls 5 [(0, .ref h_t), (1, .ref h_a1), (2, .int x2), (3, .int x3)] → W p l e rm_X6_gatherRows s m [.ref h_t, .ref h_a1, .int x2].toArray below meth c H locs 0 0 QQ (F0 m 10 ls []) := by
    intro  n
    induction n with
    | zero => intro x3 t_source_size t_source_cells H locs ls hf; exact False.elim hf
    | succ n ih10 =>
      generalize hK10 : gi3 (p_X6_gatherRows_10 n_t_source_cells a1_size a1_most a1_cells x2 Q) n = K10 at ih10
      have L69 : ∀ (x3 : Int32) (t_source_size : Int32) (t_source_cells : Nat → Int32) (H : Heap) (locs : List Loc) (ls : Array Slot), p_X6_gatherRows_69 t_source_size t_source_cells x3 K10 → va_P (dC, dI) vwCl [(h_t, .inr (3, [.ref h_t_source, .ref h_t_real, .ref h_t_dark])), (h_t_source, .inr (1, [.ref h_t_source_cells, .int t_source_size])), (h_t_source_cells, .inl (cI, n_t_source_cells, .inl t_source_cells)), (h_a1, .inr (6, [.ref h_a1_cells, .int a1_size, .int a1_most, .int a1_draw, .int a1_changes])), (h_a1_cells, .inl (cI, 48, .inl a1_cells))] H → va_D A [(h_t, .inr (3, [.ref h_t_source, .ref h_t_real, .ref h_t_dark])), (h_t_source, .inr (1, [.ref h_t_source_cells, .int t_source_size])), (h_t_source_cells, .inl (cI, n_t_source_cells, .inl t_source_cells)), (h_a1, .inr (6, [.ref h_a1_cells, .int a1_size, .int a1_most, .int a1_draw, .int a1_changes])), (h_a1_cells, .inl (cI, 48, .inl a1_cells))] → va_S A s.heap H locs → lv_has ls 5 [(0, .ref h_t), (1, .ref h_a1), (2, .int x2), (3, .int x3)] → W p l e rm_X6_gatherRows s m [.ref h_t, .ref h_a1, .int x2].toArray below meth c H locs 0 0 QQ (F0 m 69 ls []) := by
        intro x3 t_source_size t_source_cells H locs ls hf hP hD hS hl
        refine lv_iinc (v := (x3 + (1 : Int32))) (lv' := [(3, .int (x3 + (1 : Int32))), (0, .ref h_t), (1, .ref h_a1), (2, .int x2)]) hx hb dX6_gatherRows_69 hl (k := 3) rfl rfl (by decide) rfl (fun ls hl => ?_)
        refine lv_goto (tgt := 10) hx hb dX6_gatherRows_72 (by decide) ?_
        exact ih10 (x3 + (1 : Int32)) t_source_size t_source_cells _ _ _ hf hP hD hS (lv_sub hl [1, 2, 3, 0] rfl)
      have L59 : ∀ (x3 : Int32) (t_source_size : Int32) (t_source_cells : Nat → Int32) (H : Heap) (locs : List Loc) (ls : Array Slot), p_X6_gatherRows_59 n_t_source_cells t_source_size t_source_cells a1_cells x3 K10 → va_P (dC, dI) vwCl [(h_t, .inr (3, [.ref h_t_source, .ref h_t_real, .ref h_t_dark])), (h_t_source, .inr (1, [.ref h_t_source_cells, .int t_source_size])), (h_t_source_cells, .inl (cI, n_t_source_cells, .inl t_source_cells)), (h_a1, .inr (6, [.ref h_a1_cells, .int a1_size, .int a1_most, .int a1_draw, .int a1_changes])), (h_a1_cells, .inl (cI, 48, .inl a1_cells))] H → va_D A [(h_t, .inr (3, [.ref h_t_source, .ref h_t_real, .ref h_t_dark])), (h_t_source, .inr (1, [.ref h_t_source_cells, .int t_source_size])), (h_t_source_cells, .inl (cI, n_t_source_cells, .inl t_source_cells)), (h_a1, .inr (6, [.ref h_a1_cells, .int a1_size, .int a1_most, .int a1_draw, .int a1_changes])), (h_a1_cells, .inl (cI, 48, .inl a1_cells))] → va_S A s.heap H locs → lv_has ls 5 [(0, .ref h_t), (1, .ref h_a1), (2, .int x2), (3, .int x3)] → W p l e rm_X6_gatherRows s m [.ref h_t, .ref h_a1, .int x2].toArray below meth c H locs 0 0 QQ (F0 m 59 ls []) := by
        intro x3 t_source_size t_source_cells H locs ls hf hP hD hS hl
        refine lv_aload_n hx hb dX6_gatherRows_59 rfl (lv_at hl 0 rfl) ?_
        refine va_get (D := (dC, dI)) (ci := 3) (v := .ref h_t_source) (C := RX6) (T := TX6) (N := 3) hx hb hts hinX6 hown hK hP 0 rfl rfl 0 (by decide) q0 (fun _ h9 => h9) rfl dX6_gatherRows_60 ?_
        refine lv_aload_n hx hb dX6_gatherRows_63 rfl (lv_at hl 1 rfl) ?_
        refine lv_iload_n hx hb dX6_gatherRows_64 rfl (lv_at hl 3 rfl) ?_
        refine lv_iconst (v := (-1 : Int32)) hx hb dX6_gatherRows_65 (by decide) ?_
        refine gz_v (W1 := (fun u : Int32 × (Nat → Int32) => [(h_t_source, .inr (1, [.ref h_t_source_cells, .int u.1])), (h_t_source_cells, .inl (cI, n_t_source_cells, .inl u.2)), (h_a1, .inr (6, [.ref h_a1_cells, .int a1_size, .int a1_most, .int a1_draw, .int a1_changes])), (h_a1_cells, .inl (cI, 48, .inl a1_cells))])) (wn := (fun u : Int32 × (Nat → Int32) => [(h_t, .inr (3, [.ref h_t_source, .ref h_t_real, .ref h_t_dark])), (h_t_source, .inr (1, [.ref h_t_source_cells, .int u.1])), (h_t_source_cells, .inl (cI, n_t_source_cells, .inl u.2)), (h_a1, .inr (6, [.ref h_a1_cells, .int a1_size, .int a1_most, .int a1_draw, .int a1_changes])), (h_a1_cells, .inl (cI, 48, .inl a1_cells))])) (wr := [(h_t, .inr (3, [.ref h_t_source, .ref h_t_real, .ref h_t_dark]))]) (va_runV (As := [.ref h_a1, .int x3, .int (-1 : Int32)]) (rest := []) ⟨hx, hb, hml, hown, hts⟩ (c_X4_putTold l dC dI cI cJ cC cZ h_t_source h_t_source_cells h_a1 h_a1_cells H.size n_t_source_cells t_source_size t_source_cells a1_size a1_most a1_draw a1_changes a1_cells x3 (-1 : Int32) _ hf) (cwV 3 hts gX6_gatherRows_X4_putTold rfl rfl rfl (by decide +kernel) ⟨Nat.le_of_ble_eq_true rfl, Nat.le_of_ble_eq_true rfl⟩) ⟨gz_blind, va_recv hK hP (ci := 1) (q0 := 1) rfl rfl, gz_pre (gz_P_of hP (is := [1, 2, 3, 4]) (wc := [(h_t_source, .inr (1, [.ref h_t_source_cells, .int t_source_size])), (h_t_source_cells, .inl (cI, n_t_source_cells, .inl t_source_cells)), (h_a1, .inr (6, [.ref h_a1_cells, .int a1_size, .int a1_most, .int a1_draw, .int a1_changes])), (h_a1_cells, .inl (cI, 48, .inl a1_cells))]) rfl) hK (hD.sub [1, 2, 3, 4] (by decide) rfl) gz_N0⟩ rfl rfl hl.1 rfl (lv_room (Nat.le_of_ble_eq_true rfl)) dX6_gatherRows_66 ⟨Nat.le_refl _, Nat.le_refl _⟩) hP hD hS hA [1, 2, 3, 4] [0] [0, 1, 2, 3, 4] rfl rfl (by decide) (by decide) (fun _ => rfl) (by decide) (fun  u H locs hf hP hD hS => ?_)
        obtain ⟨y8, y9⟩ := u
        have hP : va_P (dC, dI) vwCl [(h_t, .inr (3, [.ref h_t_source, .ref h_t_real, .ref h_t_dark])), (h_t_source, .inr (1, [.ref h_t_source_cells, .int y8])), (h_t_source_cells, .inl (cI, n_t_source_cells, .inl y9)), (h_a1, .inr (6, [.ref h_a1_cells, .int a1_size, .int a1_most, .int a1_draw, .int a1_changes])), (h_a1_cells, .inl (cI, 48, .inl a1_cells))] H := hP
        have hD : va_D A [(h_t, .inr (3, [.ref h_t_source, .ref h_t_real, .ref h_t_dark])), (h_t_source, .inr (1, [.ref h_t_source_cells, .int y8])), (h_t_source_cells, .inl (cI, n_t_source_cells, .inl y9)), (h_a1, .inr (6, [.ref h_a1_cells, .int a1_size, .int a1_most, .int a1_draw, .int a1_changes])), (h_a1_cells, .inl (cI, 48, .inl a1_cells))] := hD
        exact L69 x3 y8 y9 _ _ _ hf hP hD hS hl
      have L47 : ∀ (x3 : Int32) (x4 : Int32) (t_source_size : Int32) (t_source_cells : Nat → Int32) (H : Heap) (locs : List Loc) (ls : Array Slot), p_X6_gatherRows_47 n_t_source_cells t_source_size t_source_cells a1_cells x3 x4 K10 → va_P (dC, dI) vwCl [(h_t, .inr (3, [.ref h_t_source, .ref h_t_real, .ref h_t_dark])), (h_t_source, .inr (1, [.ref h_t_source_cells, .int t_source_size])), (h_t_source_cells, .inl (cI, n_t_source_cells, .inl t_source_cells)), (h_a1, .inr (6, [.ref h_a1_cells, .int a1_size, .int a1_most, .int a1_draw, .int a1_changes])), (h_a1_cells, .inl (cI, 48, .inl a1_cells))] H → va_D A [(h_t, .inr (3, [.ref h_t_source, .ref h_t_real, .ref h_t_dark])), (h_t_source, .inr (1, [.ref h_t_source_cells, .int t_source_size])), (h_t_source_cells, .inl (cI, n_t_source_cells, .inl t_source_cells)), (h_a1, .inr (6, [.ref h_a1_cells, .int a1_size, .int a1_most, .int a1_draw, .int a1_changes])), (h_a1_cells, .inl (cI, 48, .inl a1_cells))] → va_S A s.heap H locs → lv_has ls 5 [(0, .ref h_t), (1, .ref h_a1), (2, .int x2), (3, .int x3), (4, .int x4)] → W p l e rm_X6_gatherRows s m [.ref h_t, .ref h_a1, .int x2].toArray below meth c H locs 0 0 QQ (F0 m 47 ls []) := by
        intro x3 x4 t_source_size t_source_cells H locs ls hf hP hD hS hl
        refine lv_iload hx hb dX6_gatherRows_47 (lv_at hl 4 rfl) ?_
        refine lv_iconst (v := (1 : Int32)) hx hb dX6_gatherRows_49 (by decide) ?_
        refine lv_icmp_eq (tgt := 59) hx hb dX6_gatherRows_50 (by decide) (fun hc11 => ?_) (fun hc11 => ?_)
        · have hf := hf.1 hc11
          exact L59 x3 t_source_size t_source_cells _ _ _ hf hP hD hS (lv_sub hl [0, 1, 2, 3] rfl)
        · have hf := hf.2 hc11
          refine lv_iload hx hb dX6_gatherRows_53 (lv_at hl 4 rfl) ?_
          refine lv_iconst (v := (2 : Int32)) hx hb dX6_gatherRows_55 (by decide) ?_
          refine lv_icmp_ne (tgt := 69) hx hb dX6_gatherRows_56 (by decide) (fun hc10 => ?_) (fun hc10 => ?_)
          · have hf := hf.2 hc10
            exact L69 x3 t_source_size t_source_cells _ _ _ hf hP hD hS (lv_sub hl [0, 1, 2, 3] rfl)
          · have hf := hf.1 hc10
            exact L59 x3 t_source_size t_source_cells _ _ _ hf hP hD hS (lv_sub hl [0, 1, 2, 3] rfl)
      have L37 : ∀ (x3 : Int32) (x4 : Int32) (t_source_size : Int32) (t_source_cells : Nat → Int32) (H : Heap) (locs : List Loc) (ls : Array Slot), p_X6_gatherRows_37 n_t_source_cells t_source_size t_source_cells a1_cells x3 x4 K10 → va_P (dC, dI) vwCl [(h_t, .inr (3, [.ref h_t_source, .ref h_t_real, .ref h_t_dark])), (h_t_source, .inr (1, [.ref h_t_source_cells, .int t_source_size])), (h_t_source_cells, .inl (cI, n_t_source_cells, .inl t_source_cells)), (h_a1, .inr (6, [.ref h_a1_cells, .int a1_size, .int a1_most, .int a1_draw, .int a1_changes])), (h_a1_cells, .inl (cI, 48, .inl a1_cells))] H → va_D A [(h_t, .inr (3, [.ref h_t_source, .ref h_t_real, .ref h_t_dark])), (h_t_source, .inr (1, [.ref h_t_source_cells, .int t_source_size])), (h_t_source_cells, .inl (cI, n_t_source_cells, .inl t_source_cells)), (h_a1, .inr (6, [.ref h_a1_cells, .int a1_size, .int a1_most, .int a1_draw, .int a1_changes])), (h_a1_cells, .inl (cI, 48, .inl a1_cells))] → va_S A s.heap H locs → lv_has ls 5 [(0, .ref h_t), (1, .ref h_a1), (2, .int x2), (3, .int x3), (4, .int x4)] → W p l e rm_X6_gatherRows s m [.ref h_t, .ref h_a1, .int x2].toArray below meth c H locs 0 0 QQ (F0 m 37 ls []) := by
        intro x3 x4 t_source_size t_source_cells H locs ls hf hP hD hS hl
        refine lv_aload_n hx hb dX6_gatherRows_37 rfl (lv_at hl 0 rfl) ?_
        refine va_get (D := (dC, dI)) (ci := 3) (v := .ref h_t_source) (C := RX6) (T := TX6) (N := 3) hx hb hts hinX6 hown hK hP 0 rfl rfl 0 (by decide) q0 (fun _ h9 => h9) rfl dX6_gatherRows_38 ?_
        refine lv_aload_n hx hb dX6_gatherRows_41 rfl (lv_at hl 1 rfl) ?_
        refine lv_iload_n hx hb dX6_gatherRows_42 rfl (lv_at hl 3 rfl) ?_
        refine lv_iconst (v := (1 : Int32)) hx hb dX6_gatherRows_43 (by decide) ?_
        refine gz_v (W1 := (fun u : Int32 × (Nat → Int32) => [(h_t_source, .inr (1, [.ref h_t_source_cells, .int u.1])), (h_t_source_cells, .inl (cI, n_t_source_cells, .inl u.2)), (h_a1, .inr (6, [.ref h_a1_cells, .int a1_size, .int a1_most, .int a1_draw, .int a1_changes])), (h_a1_cells, .inl (cI, 48, .inl a1_cells))])) (wn := (fun u : Int32 × (Nat → Int32) => [(h_t, .inr (3, [.ref h_t_source, .ref h_t_real, .ref h_t_dark])), (h_t_source, .inr (1, [.ref h_t_source_cells, .int u.1])), (h_t_source_cells, .inl (cI, n_t_source_cells, .inl u.2)), (h_a1, .inr (6, [.ref h_a1_cells, .int a1_size, .int a1_most, .int a1_draw, .int a1_changes])), (h_a1_cells, .inl (cI, 48, .inl a1_cells))])) (wr := [(h_t, .inr (3, [.ref h_t_source, .ref h_t_real, .ref h_t_dark]))]) (va_runV (As := [.ref h_a1, .int x3, .int (1 : Int32)]) (rest := []) ⟨hx, hb, hml, hown, hts⟩ (c_X4_putTold l dC dI cI cJ cC cZ h_t_source h_t_source_cells h_a1 h_a1_cells H.size n_t_source_cells t_source_size t_source_cells a1_size a1_most a1_draw a1_changes a1_cells x3 (1 : Int32) _ hf) (cwV 3 hts gX6_gatherRows_X4_putTold rfl rfl rfl (by decide +kernel) ⟨Nat.le_of_ble_eq_true rfl, Nat.le_of_ble_eq_true rfl⟩) ⟨gz_blind, va_recv hK hP (ci := 1) (q0 := 1) rfl rfl, gz_pre (gz_P_of hP (is := [1, 2, 3, 4]) (wc := [(h_t_source, .inr (1, [.ref h_t_source_cells, .int t_source_size])), (h_t_source_cells, .inl (cI, n_t_source_cells, .inl t_source_cells)), (h_a1, .inr (6, [.ref h_a1_cells, .int a1_size, .int a1_most, .int a1_draw, .int a1_changes])), (h_a1_cells, .inl (cI, 48, .inl a1_cells))]) rfl) hK (hD.sub [1, 2, 3, 4] (by decide) rfl) gz_N0⟩ rfl rfl hl.1 rfl (lv_room (Nat.le_of_ble_eq_true rfl)) dX6_gatherRows_44 ⟨Nat.le_refl _, Nat.le_refl _⟩) hP hD hS hA [1, 2, 3, 4] [0] [0, 1, 2, 3, 4] rfl rfl (by decide) (by decide) (fun _ => rfl) (by decide) (fun  u H locs hf hP hD hS => ?_)
        obtain ⟨y6, y7⟩ := u
        have hP : va_P (dC, dI) vwCl [(h_t, .inr (3, [.ref h_t_source, .ref h_t_real, .ref h_t_dark])), (h_t_source, .inr (1, [.ref h_t_source_cells, .int y6])), (h_t_source_cells, .inl (cI, n_t_source_cells, .inl y7)), (h_a1, .inr (6, [.ref h_a1_cells, .int a1_size, .int a1_most, .int a1_draw, .int a1_changes])), (h_a1_cells, .inl (cI, 48, .inl a1_cells))] H := hP
        have hD : va_D A [(h_t, .inr (3, [.ref h_t_source, .ref h_t_real, .ref h_t_dark])), (h_t_source, .inr (1, [.ref h_t_source_cells, .int y6])), (h_t_source_cells, .inl (cI, n_t_source_cells, .inl y7)), (h_a1, .inr (6, [.ref h_a1_cells, .int a1_size, .int a1_most, .int a1_draw, .int a1_changes])), (h_a1_cells, .inl (cI, 48, .inl a1_cells))] := hD
        exact L47 x3 x4 y6 y7 _ _ _ hf hP hD hS hl
      intro x3 t_source_size t_source_cells H locs ls hf hP hD hS hl
      have hf : p_X6_gatherRows_10 n_t_source_cells a1_size a1_most a1_cells x2 Q (gi3 (p_X6_gatherRows_10 n_t_source_cells a1_size a1_most a1_cells x2 Q) n) x3 t_source_size t_source_cells := hf
      rw [hK10] at hf
      refine lv_iload_n hx hb dX6_gatherRows_10 rfl (lv_at hl 3 rfl) ?_
      refine lv_aload_n hx hb dX6_gatherRows_11 rfl (lv_at hl 1 rfl) ?_
      refine va_get (D := (dC, dI)) (ci := 6) (v := .int a1_size) (C := RX9) (T := TX9) (N := 5) hx hb hts hinX9 hown hK hP 3 rfl rfl 1 (by decide) q3 (fun _ h9 => h9) rfl dX6_gatherRows_12 ?_
      refine lv_icmp_ge (tgt := 75) hx hb dX6_gatherRows_15 (by decide) (fun hc14 => ?_) (fun hc14 => ?_)
      · have hf := hf.1 hc14
        refine lv_aload_n hx hb dX6_gatherRows_75 rfl (lv_at hl 0 rfl) ?_
        refine va_get (D := (dC, dI)) (ci := 3) (v := .ref h_t_source) (C := RX6) (T := TX6) (N := 3) hx hb hts hinX6 hown hK hP 0 rfl rfl 0 (by decide) q0 (fun _ h9 => h9) rfl dX6_gatherRows_76 ?_
        refine lv_iload_n hx hb dX6_gatherRows_79 rfl (lv_at hl 2 rfl) ?_
        refine lv_iconst (v := (1 : Int32)) hx hb dX6_gatherRows_80 (by decide) ?_
        refine lv_iconst (v := (0 : Int32)) hx hb dX6_gatherRows_81 (by decide) ?_
        refine gz_v (W1 := (fun u : Int32 × (Nat → Int32) => [(h_t_source, .inr (1, [.ref h_t_source_cells, .int u.1])), (h_t_source_cells, .inl (cI, n_t_source_cells, .inl u.2))])) (wn := (fun u : Int32 × (Nat → Int32) => [(h_t, .inr (3, [.ref h_t_source, .ref h_t_real, .ref h_t_dark])), (h_t_source, .inr (1, [.ref h_t_source_cells, .int u.1])), (h_t_source_cells, .inl (cI, n_t_source_cells, .inl u.2)), (h_a1, .inr (6, [.ref h_a1_cells, .int a1_size, .int a1_most, .int a1_draw, .int a1_changes])), (h_a1_cells, .inl (cI, 48, .inl a1_cells))])) (wr := [(h_t, .inr (3, [.ref h_t_source, .ref h_t_real, .ref h_t_dark])), (h_a1, .inr (6, [.ref h_a1_cells, .int a1_size, .int a1_most, .int a1_draw, .int a1_changes])), (h_a1_cells, .inl (cI, 48, .inl a1_cells))]) (va_runV (As := [.int x2, .int (1 : Int32), .int (0 : Int32)]) (rest := []) ⟨hx, hb, hml, hown, hts⟩ (c_X4_putBound l dC dI cI cJ cC cZ h_t_source h_t_source_cells H.size n_t_source_cells t_source_size t_source_cells x2 (1 : Int32) (0 : Int32) _ hf) (cwV 3 hts gX6_gatherRows_X4_putBound rfl rfl rfl (by decide +kernel) ⟨Nat.le_of_ble_eq_true rfl, Nat.le_of_ble_eq_true rfl⟩) ⟨gz_blind, va_recv hK hP (ci := 1) (q0 := 1) rfl rfl, gz_pre (gz_P_of hP (is := [1, 2]) (wc := [(h_t_source, .inr (1, [.ref h_t_source_cells, .int t_source_size])), (h_t_source_cells, .inl (cI, n_t_source_cells, .inl t_source_cells))]) rfl) hK (hD.sub [1, 2] (by decide) rfl) gz_N0⟩ rfl rfl hl.1 rfl (lv_room (Nat.le_of_ble_eq_true rfl)) dX6_gatherRows_82 ⟨Nat.le_refl _, Nat.le_refl _⟩) hP hD hS hA [1, 2] [0, 3, 4] [0, 3, 4, 1, 2] rfl rfl (by decide) (by decide) (fun _ => rfl) (by decide) (fun  u H locs hf hP hD hS => ?_)
        obtain ⟨y1, y2⟩ := u
        have hP : va_P (dC, dI) vwCl [(h_t, .inr (3, [.ref h_t_source, .ref h_t_real, .ref h_t_dark])), (h_t_source, .inr (1, [.ref h_t_source_cells, .int y1])), (h_t_source_cells, .inl (cI, n_t_source_cells, .inl y2)), (h_a1, .inr (6, [.ref h_a1_cells, .int a1_size, .int a1_most, .int a1_draw, .int a1_changes])), (h_a1_cells, .inl (cI, 48, .inl a1_cells))] H := hP
        have hD : va_D A [(h_t, .inr (3, [.ref h_t_source, .ref h_t_real, .ref h_t_dark])), (h_t_source, .inr (1, [.ref h_t_source_cells, .int y1])), (h_t_source_cells, .inl (cI, n_t_source_cells, .inl y2)), (h_a1, .inr (6, [.ref h_a1_cells, .int a1_size, .int a1_most, .int a1_draw, .int a1_changes])), (h_a1_cells, .inl (cI, 48, .inl a1_cells))] := hD
        refine lv_aload_n hx hb dX6_gatherRows_85 rfl (lv_at hl 0 rfl) ?_
        refine va_get (D := (dC, dI)) (ci := 3) (v := .ref h_t_source) (C := RX6) (T := TX6) (N := 3) hx hb hts hinX6 hown hK hP 0 rfl rfl 0 (by decide) q0 (fun _ h9 => h9) rfl dX6_gatherRows_86 ?_
        refine lv_iload_n hx hb dX6_gatherRows_89 rfl (lv_at hl 2 rfl) ?_
        refine lv_iconst (v := (-1 : Int32)) hx hb dX6_gatherRows_90 (by decide) ?_
        refine lv_aload_n hx hb dX6_gatherRows_91 rfl (lv_at hl 1 rfl) ?_
        refine va_get (D := (dC, dI)) (ci := 6) (v := .int a1_most) (C := RX9) (T := TX9) (N := 5) hx hb hts hinX9 hown hK hP 3 rfl rfl 2 (by decide) q5 (fun _ h9 => h9) rfl dX6_gatherRows_92 ?_
        refine gz_v (W1 := (fun u : Int32 × (Nat → Int32) => [(h_t_source, .inr (1, [.ref h_t_source_cells, .int u.1])), (h_t_source_cells, .inl (cI, n_t_source_cells, .inl u.2))])) (wn := (fun u : Int32 × (Nat → Int32) => [(h_t, .inr (3, [.ref h_t_source, .ref h_t_real, .ref h_t_dark])), (h_t_source, .inr (1, [.ref h_t_source_cells, .int u.1])), (h_t_source_cells, .inl (cI, n_t_source_cells, .inl u.2)), (h_a1, .inr (6, [.ref h_a1_cells, .int a1_size, .int a1_most, .int a1_draw, .int a1_changes])), (h_a1_cells, .inl (cI, 48, .inl a1_cells))])) (wr := [(h_t, .inr (3, [.ref h_t_source, .ref h_t_real, .ref h_t_dark])), (h_a1, .inr (6, [.ref h_a1_cells, .int a1_size, .int a1_most, .int a1_draw, .int a1_changes])), (h_a1_cells, .inl (cI, 48, .inl a1_cells))]) (va_runV (As := [.int x2, .int (-1 : Int32), .int a1_most]) (rest := []) ⟨hx, hb, hml, hown, hts⟩ (c_X4_putBound l dC dI cI cJ cC cZ h_t_source h_t_source_cells H.size n_t_source_cells y1 y2 x2 (-1 : Int32) a1_most _ hf) (cwV 3 hts gX6_gatherRows_X4_putBound rfl rfl rfl (by decide +kernel) ⟨Nat.le_of_ble_eq_true rfl, Nat.le_of_ble_eq_true rfl⟩) ⟨gz_blind, va_recv hK hP (ci := 1) (q0 := 1) rfl rfl, gz_pre (gz_P_of hP (is := [1, 2]) (wc := [(h_t_source, .inr (1, [.ref h_t_source_cells, .int y1])), (h_t_source_cells, .inl (cI, n_t_source_cells, .inl y2))]) rfl) hK (hD.sub [1, 2] (by decide) rfl) gz_N0⟩ rfl rfl hl.1 rfl (lv_room (Nat.le_of_ble_eq_true rfl)) dX6_gatherRows_95 ⟨Nat.le_refl _, Nat.le_refl _⟩) hP hD hS hA [1, 2] [0, 3, 4] [0, 3, 4, 1, 2] rfl rfl (by decide) (by decide) (fun _ => rfl) (by decide) (fun  u H locs hf hP hD hS => ?_)
        obtain ⟨y3, y4⟩ := u
        have hP : va_P (dC, dI) vwCl [(h_t, .inr (3, [.ref h_t_source, .ref h_t_real, .ref h_t_dark])), (h_t_source, .inr (1, [.ref h_t_source_cells, .int y3])), (h_t_source_cells, .inl (cI, n_t_source_cells, .inl y4)), (h_a1, .inr (6, [.ref h_a1_cells, .int a1_size, .int a1_most, .int a1_draw, .int a1_changes])), (h_a1_cells, .inl (cI, 48, .inl a1_cells))] H := hP
        have hD : va_D A [(h_t, .inr (3, [.ref h_t_source, .ref h_t_real, .ref h_t_dark])), (h_t_source, .inr (1, [.ref h_t_source_cells, .int y3])), (h_t_source_cells, .inl (cI, n_t_source_cells, .inl y4)), (h_a1, .inr (6, [.ref h_a1_cells, .int a1_size, .int a1_most, .int a1_draw, .int a1_changes])), (h_a1_cells, .inl (cI, 48, .inl a1_cells))] := hD
        exact ret _ _ _ _ (y3, y4) hf hP hD hS dX6_gatherRows_98
      · have hf := hf.2 hc14
        refine lv_aload_n hx hb dX6_gatherRows_18 rfl (lv_at hl 1 rfl) ?_
        refine lv_iload_n hx hb dX6_gatherRows_19 rfl (lv_at hl 3 rfl) ?_
        refine lv_iconst (v := (5 : Int32)) hx hb dX6_gatherRows_20 (by decide) ?_
        refine gz_iR (va_runV (As := [.int x3, .int (5 : Int32)]) (rest := []) ⟨hx, hb, hml, hown, hts⟩ (c_X9_cell l dC dI cI cJ cC cZ h_a1 h_a1_cells H.size a1_size a1_most a1_draw a1_changes a1_cells x3 (5 : Int32) _ hf) (cwV 2 hts gX6_gatherRows_X9_cell rfl rfl rfl (by decide +kernel) ⟨Nat.le_of_ble_eq_true rfl, Nat.le_of_ble_eq_true rfl⟩) ⟨gz_blind, va_recv hK hP (ci := 6) (q0 := 3) rfl rfl, gz_pre (gz_P_of hP (is := [3, 4]) (wc := [(h_a1, .inr (6, [.ref h_a1_cells, .int a1_size, .int a1_most, .int a1_draw, .int a1_changes])), (h_a1_cells, .inl (cI, 48, .inl a1_cells))]) rfl) hK (hD.sub [3, 4] (by decide) rfl) gz_N0⟩ rfl rfl hl.1 rfl (lv_room (Nat.le_of_ble_eq_true rfl)) dX6_gatherRows_21 ⟨Nat.le_refl _, Nat.le_refl _⟩) hP hD hS hA [3, 4] rfl (fun r5 H locs hf hP hS => ?_)
        refine lv_istore (lv' := [(4, .int r5), (0, .ref h_t), (1, .ref h_a1), (2, .int x2), (3, .int x3)]) hx hb dX6_gatherRows_24 hl (by decide) rfl (fun ls hl => ?_)
        refine lv_iload hx hb dX6_gatherRows_26 (lv_at hl 0 rfl) ?_
        refine lv_if_eq (tgt := 37) hx hb dX6_gatherRows_28 (by decide) (fun hc13 => ?_) (fun hc13 => ?_)
        · have hf := hf.1 hc13
          exact L37 x3 r5 t_source_size t_source_cells _ _ _ hf hP hD hS (lv_sub hl [1, 2, 3, 4, 0] rfl)
        · have hf := hf.2 hc13
          refine lv_iload hx hb dX6_gatherRows_31 (lv_at hl 0 rfl) ?_
          refine lv_iconst (v := (2 : Int32)) hx hb dX6_gatherRows_33 (by decide) ?_
          refine lv_icmp_ne (tgt := 47) hx hb dX6_gatherRows_34 (by decide) (fun hc12 => ?_) (fun hc12 => ?_)
          · have hf := hf.2 hc12
            exact L47 x3 r5 t_source_size t_source_cells _ _ _ hf hP hD hS (lv_sub hl [1, 2, 3, 4, 0] rfl)
          · have hf := hf.1 hc12
            exact L37 x3 r5 t_source_size t_source_cells _ _ _ hf hP hD hS (lv_sub hl [1, 2, 3, 4, 0] rfl)
  have hf := hw
  refine lv_aload_n hx hb dX6_gatherRows_0 rfl (lv_at hl 0 rfl) ?_
  refine va_get (D := (dC, dI)) (ci := 3) (v := .ref h_t_source) (C := RX6) (T := TX6) (N := 3) hx hb hts hinX6 hown hK hP 0 rfl rfl 0 (by decide) q0 (fun _ h9 => h9) rfl dX6_gatherRows_1 ?_
  refine lv_iconst (v := (0 : Int32)) hx hb dX6_gatherRows_4 (by decide) ?_
  refine va_put (D := (dC, dI)) (ci := 1) (v := .int (0 : Int32)) (ty := .int) (C := RX4) (T := TX4) (N := 2) hx hb hts hinX4 tyX4 tyX4_ok nmX4 hown hK hP hD hS 1 rfl rfl 1 (by decide) q2 (fun _ h9 => h9) rfl (by decide +kernel) rfl rfl (Nat.le_of_ble_eq_true rfl) dX6_gatherRows_5 (fun H locs hP hD hS => ?_)
  have hP : va_P (dC, dI) vwCl [(h_t, .inr (3, [.ref h_t_source, .ref h_t_real, .ref h_t_dark])), (h_t_source, .inr (1, [.ref h_t_source_cells, .int (0 : Int32)])), (h_t_source_cells, .inl (cI, n_t_source_cells, .inl t_source_cells)), (h_a1, .inr (6, [.ref h_a1_cells, .int a1_size, .int a1_most, .int a1_draw, .int a1_changes])), (h_a1_cells, .inl (cI, 48, .inl a1_cells))] H := hP
  have hD : va_D A [(h_t, .inr (3, [.ref h_t_source, .ref h_t_real, .ref h_t_dark])), (h_t_source, .inr (1, [.ref h_t_source_cells, .int (0 : Int32)])), (h_t_source_cells, .inl (cI, n_t_source_cells, .inl t_source_cells)), (h_a1, .inr (6, [.ref h_a1_cells, .int a1_size, .int a1_most, .int a1_draw, .int a1_changes])), (h_a1_cells, .inl (cI, 48, .inl a1_cells))] := hD
  refine lv_iconst (v := (0 : Int32)) hx hb dX6_gatherRows_8 (by decide) ?_
  refine lv_istore_n (lv' := [(3, .int (0 : Int32)), (0, .ref h_t), (1, .ref h_a1), (2, .int x2)]) hx hb dX6_gatherRows_9 rfl hl (by decide) rfl (fun ls hl => ?_)
  obtain ⟨n, hf⟩ := hf
  exact L10  n (0 : Int32) (0 : Int32) t_source_cells _ _ _ hf hP hD hS (lv_sub hl [1, 2, 3, 0] rfl)
abbrev rm_X6_castShadow : Room := { frames := 4, cells := 0, slots := 0, locals := 100 }
set_option maxHeartbeats 4000000 in
set_option maxRecDepth 100000 in
theorem c_X6_castShadow (l : Launch) (dC : Nat → ClassId) (dI : Nat → Nat → Nat) (cI cJ cC cZ : ClassId) (h_t h_t_source h_t_real h_t_dark h_t_source_cells h_a1 h_a1_cells : Nat) (sz : Nat) (n_t_source_cells : Nat) (n_a1_cells : Nat) (t_source_size : Int32) (t_source_cells : Nat → Int32) (a1_size : Int32) (a1_cells : Nat → Int32) (x2 : Int32) (x3 : Int32) (Q : Int32 → (Nat → Int32) → Prop) (hw : p_X6_castShadow n_t_source_cells n_a1_cells t_source_size t_source_cells a1_size a1_cells x2 x3 Q) : Met l yX6_castShadow wsX6_castShadow rm_X6_castShadow (va_Pc [.ref h_t, .ref h_a1, .int x2, .int x3] (gz_B (dC, dI) (gz_T cI cJ cC cZ) [] sz [(h_t, .inr (3, [.ref h_t_source, .ref h_t_real, .ref h_t_dark])), (h_t_source, .inr (1, [.ref h_t_source_cells, .int t_source_size])), (h_t_source_cells, .inl (cI, n_t_source_cells, .inl t_source_cells)), (h_a1, .inr (1, [.ref h_a1_cells, .int a1_size])), (h_a1_cells, .inl (cI, n_a1_cells, .inl a1_cells))])) (va_Qv (fun (u : Int32 × (Nat → Int32)) => Q u.1 u.2) (fun u t => gz_E (dC, dI) (gz_T cI cJ cC cZ) (va_A [(h_t, .inr (3, [.ref h_t_source, .ref h_t_real, .ref h_t_dark])), (h_t_source, .inr (1, [.ref h_t_source_cells, .int t_source_size])), (h_t_source_cells, .inl (cI, n_t_source_cells, .inl t_source_cells)), (h_a1, .inr (1, [.ref h_a1_cells, .int a1_size])), (h_a1_cells, .inl (cI, n_a1_cells, .inl a1_cells))] sz) [(h_t, .inr (3, [.ref h_t_source, .ref h_t_real, .ref h_t_dark])), (h_t_source, .inr (1, [.ref h_t_source_cells, .int t_source_size])), (h_t_source_cells, .inl (cI, n_t_source_cells, .inl t_source_cells)), (h_a1, .inr (1, [.ref h_a1_cells, .int u.1])), (h_a1_cells, .inl (cI, n_a1_cells, .inl u.2))] t) (va_A [(h_t, .inr (3, [.ref h_t_source, .ref h_t_real, .ref h_t_dark])), (h_t_source, .inr (1, [.ref h_t_source_cells, .int t_source_size])), (h_t_source_cells, .inl (cI, n_t_source_cells, .inl t_source_cells)), (h_a1, .inr (1, [.ref h_a1_cells, .int a1_size])), (h_a1_cells, .inl (cI, n_a1_cells, .inl a1_cells))] sz)) 0 0 (va_A [(h_t, .inr (3, [.ref h_t_source, .ref h_t_real, .ref h_t_dark])), (h_t_source, .inr (1, [.ref h_t_source_cells, .int t_source_size])), (h_t_source_cells, .inl (cI, n_t_source_cells, .inl t_source_cells)), (h_a1, .inr (1, [.ref h_a1_cells, .int a1_size])), (h_a1_cells, .inl (cI, n_a1_cells, .inl a1_cells))] sz) := by
  refine gz_mv (cc := cX6_castShadow) (maxL := 6) (plainFor_of_name (by decide +kernel)) rfl (Nat.le_of_ble_eq_true rfl) ?_
  intro p e s m below meth c A QQ ls hx hb hml hown0 hts hK hN hA hP hD hS hl ret
  have hown : s.vm.findClass RX6 = some m.cls := hown0
  have hl : lv_has ls 6 [(0, .ref h_t), (1, .ref h_a1), (2, .int x2), (3, .int x3)] := hl
  have q0 := hts (.fieldLink RX6 68 "DarkShadows$Rows" "size" "I") (List.mem_cons_of_mem _ (List.mem_append_left _ (List.mem_append_left _ (List.mem_append_left _ (List.mem_of_getElem? (i := 0) rfl)))))
  have q1 := hts (.fieldLink RX6 16 "DarkShadows$Shade" "source" "LDarkShadows$Rows;") (List.mem_cons_of_mem _ (List.mem_append_left _ (List.mem_append_left _ (List.mem_append_left _ (List.mem_of_getElem? (i := 1) rfl)))))
  have hinX6 : ∀ w ∈ wsX60, w ∈ wsX6_castShadow := fun w h => List.mem_cons_of_mem _ (List.mem_append_right _ h)
  have hinX4 : ∀ w ∈ wsX40, w ∈ wsX6_castShadow := fun w h => List.mem_cons_of_mem _ (List.mem_append_left _ (List.mem_append_right _ h))
  have L52 : ∀ (n : Nat) (x4 : Int32) (a1_size : Int32) (a1_cells : Nat → Int32) (H : Heap) (locs : List Loc) (ls : Array Slot), gi3 (p_X6_castShadow_52 n_t_source_cells n_a1_cells t_source_size t_source_cells x2 x3 Q) n x4 a1_size a1_cells → va_P (dC, dI) vwCl [(h_t, .inr (3, [.ref h_t_source, .ref h_t_real, .ref h_t_dark])), (h_t_source, .inr (1, [.ref h_t_source_cells, .int t_source_size])), (h_t_source_cells, .inl (cI, n_t_source_cells, .inl t_source_cells)), (h_a1, .inr (1, [.ref h_a1_cells, .int a1_size])), (h_a1_cells, .inl (cI, n_a1_cells, .inl a1_cells))] H → va_D A [(h_t, .inr (3, [.ref h_t_source, .ref h_t_real, .ref h_t_dark])), (h_t_source, .inr (1, [.ref h_t_source_cells, .int t_source_size])), (h_t_source_cells, .inl (cI, n_t_source_cells, .inl t_source_cells)), (h_a1, .inr (1, [.ref h_a1_cells, .int a1_size])), (h_a1_cells, .inl (cI, n_a1_cells, .inl a1_cells))] → va_S A s.heap H locs → lv_has ls 6 [(0, .ref h_t), (1, .ref h_a1), (2, .int x2), (3, .int x3), (4, .int x4)] → W p l e rm_X6_castShadow s m [.ref h_t, .ref h_a1, .int x2, .int x3].toArray below meth c H locs 0 0 QQ (F0 m 52 ls []) := by
    intro  n
    induction n with
    | zero => intro x4 a1_size a1_cells H locs ls hf; exact False.elim hf
    | succ n ih52 =>
      generalize hK52 : gi3 (p_X6_castShadow_52 n_t_source_cells n_a1_cells t_source_size t_source_cells x2 x3 Q) n = K52 at ih52
      have L67 : ∀ (x4 : Int32) (n : Nat) (x5 : Int32) (a1_size : Int32) (a1_cells : Nat → Int32) (H : Heap) (locs : List Loc) (ls : Array Slot), gi3 (p_X6_castShadow_67 n_t_source_cells n_a1_cells t_source_size t_source_cells x2 x3 x4 K52) n x5 a1_size a1_cells → va_P (dC, dI) vwCl [(h_t, .inr (3, [.ref h_t_source, .ref h_t_real, .ref h_t_dark])), (h_t_source, .inr (1, [.ref h_t_source_cells, .int t_source_size])), (h_t_source_cells, .inl (cI, n_t_source_cells, .inl t_source_cells)), (h_a1, .inr (1, [.ref h_a1_cells, .int a1_size])), (h_a1_cells, .inl (cI, n_a1_cells, .inl a1_cells))] H → va_D A [(h_t, .inr (3, [.ref h_t_source, .ref h_t_real, .ref h_t_dark])), (h_t_source, .inr (1, [.ref h_t_source_cells, .int t_source_size])), (h_t_source_cells, .inl (cI, n_t_source_cells, .inl t_source_cells)), (h_a1, .inr (1, [.ref h_a1_cells, .int a1_size])), (h_a1_cells, .inl (cI, n_a1_cells, .inl a1_cells))] → va_S A s.heap H locs → lv_has ls 6 [(0, .ref h_t), (1, .ref h_a1), (2, .int x2), (3, .int x3), (4, .int x4), (5, .int x5)] → W p l e rm_X6_castShadow s m [.ref h_t, .ref h_a1, .int x2, .int x3].toArray below meth c H locs 0 0 QQ (F0 m 67 ls []) := by
        intro x4 n
        induction n with
        | zero => intro x5 a1_size a1_cells H locs ls hf; exact False.elim hf
        | succ n ih67 =>
          generalize hK67 : gi3 (p_X6_castShadow_67 n_t_source_cells n_a1_cells t_source_size t_source_cells x2 x3 x4 K52) n = K67 at ih67
          have L119 : ∀ (x5 : Int32) (a1_size : Int32) (a1_cells : Nat → Int32) (H : Heap) (locs : List Loc) (ls : Array Slot), p_X6_castShadow_119 a1_size a1_cells x5 K67 → va_P (dC, dI) vwCl [(h_t, .inr (3, [.ref h_t_source, .ref h_t_real, .ref h_t_dark])), (h_t_source, .inr (1, [.ref h_t_source_cells, .int t_source_size])), (h_t_source_cells, .inl (cI, n_t_source_cells, .inl t_source_cells)), (h_a1, .inr (1, [.ref h_a1_cells, .int a1_size])), (h_a1_cells, .inl (cI, n_a1_cells, .inl a1_cells))] H → va_D A [(h_t, .inr (3, [.ref h_t_source, .ref h_t_real, .ref h_t_dark])), (h_t_source, .inr (1, [.ref h_t_source_cells, .int t_source_size])), (h_t_source_cells, .inl (cI, n_t_source_cells, .inl t_source_cells)), (h_a1, .inr (1, [.ref h_a1_cells, .int a1_size])), (h_a1_cells, .inl (cI, n_a1_cells, .inl a1_cells))] → va_S A s.heap H locs → lv_has ls 6 [(0, .ref h_t), (1, .ref h_a1), (2, .int x2), (3, .int x3), (4, .int x4), (5, .int x5)] → W p l e rm_X6_castShadow s m [.ref h_t, .ref h_a1, .int x2, .int x3].toArray below meth c H locs 0 0 QQ (F0 m 119 ls []) := by
            intro x5 a1_size a1_cells H locs ls hf hP hD hS hl
            refine lv_iinc (v := (x5 + (1 : Int32))) (lv' := [(5, .int (x5 + (1 : Int32))), (0, .ref h_t), (1, .ref h_a1), (2, .int x2), (3, .int x3), (4, .int x4)]) hx hb dX6_castShadow_119 hl (k := 5) rfl rfl (by decide) rfl (fun ls hl => ?_)
            refine lv_goto (tgt := 67) hx hb dX6_castShadow_122 (by decide) ?_
            exact ih67 (x5 + (1 : Int32)) a1_size a1_cells _ _ _ hf hP hD hS (lv_sub hl [1, 2, 3, 4, 5, 0] rfl)
          intro x5 a1_size a1_cells H locs ls hf hP hD hS hl
          have hf : p_X6_castShadow_67 n_t_source_cells n_a1_cells t_source_size t_source_cells x2 x3 x4 K52 (gi3 (p_X6_castShadow_67 n_t_source_cells n_a1_cells t_source_size t_source_cells x2 x3 x4 K52) n) x5 a1_size a1_cells := hf
          rw [hK67] at hf
          refine lv_iload hx hb dX6_castShadow_67 (lv_at hl 5 rfl) ?_
          refine lv_aload_n hx hb dX6_castShadow_69 rfl (lv_at hl 0 rfl) ?_
          refine va_get (D := (dC, dI)) (ci := 3) (v := .ref h_t_source) (C := RX6) (T := TX6) (N := 3) hx hb hts hinX6 hown hK hP 0 rfl rfl 0 (by decide) q1 (fun _ h9 => h9) rfl dX6_castShadow_70 ?_
          refine va_get (D := (dC, dI)) (ci := 1) (v := .int t_source_size) (C := RX4) (T := TX4) (N := 2) hx hb hts hinX4 hown hK hP 1 rfl rfl 1 (by decide) q0 (fun _ h9 => h9) rfl dX6_castShadow_73 ?_
          refine lv_icmp_ge (tgt := 125) hx hb dX6_castShadow_76 (by decide) (fun hc7 => ?_) (fun hc7 => ?_)
          · have hf := hf.1 hc7
            refine lv_iinc (v := (x4 + (1 : Int32))) (lv' := [(4, .int (x4 + (1 : Int32))), (0, .ref h_t), (1, .ref h_a1), (2, .int x2), (3, .int x3), (5, .int x5)]) hx hb dX6_castShadow_125 hl (k := 4) rfl rfl (by decide) rfl (fun ls hl => ?_)
            refine lv_goto (tgt := 52) hx hb dX6_castShadow_128 (by decide) ?_
            exact ih52 (x4 + (1 : Int32)) a1_size a1_cells _ _ _ hf hP hD hS (lv_sub hl [1, 2, 3, 4, 0] rfl)
          · have hf := hf.2 hc7
            refine lv_aload_n hx hb dX6_castShadow_79 rfl (lv_at hl 0 rfl) ?_
            refine va_get (D := (dC, dI)) (ci := 3) (v := .ref h_t_source) (C := RX6) (T := TX6) (N := 3) hx hb hts hinX6 hown hK hP 0 rfl rfl 0 (by decide) q1 (fun _ h9 => h9) rfl dX6_castShadow_80 ?_
            refine lv_iload hx hb dX6_castShadow_83 (lv_at hl 4 rfl) ?_
            refine lv_iload_n hx hb dX6_castShadow_85 rfl (lv_at hl 2 rfl) ?_
            refine gz_iR (va_runV (As := [.int x4, .int x2]) (rest := []) ⟨hx, hb, hml, hown, hts⟩ (c_X4_cell l dC dI cI cJ cC cZ h_t_source h_t_source_cells H.size n_t_source_cells t_source_size t_source_cells x4 x2 _ hf) (cwV 2 hts gX6_castShadow_X4_cell rfl rfl rfl (by decide +kernel) ⟨Nat.le_of_ble_eq_true rfl, Nat.le_of_ble_eq_true rfl⟩) ⟨gz_blind, va_recv hK hP (ci := 1) (q0 := 1) rfl rfl, gz_pre (gz_P_of hP (is := [1, 2]) (wc := [(h_t_source, .inr (1, [.ref h_t_source_cells, .int t_source_size])), (h_t_source_cells, .inl (cI, n_t_source_cells, .inl t_source_cells))]) rfl) hK (hD.sub [1, 2] (by decide) rfl) gz_N0⟩ rfl rfl hl.1 rfl (lv_room (Nat.le_of_ble_eq_true rfl)) dX6_castShadow_86 ⟨Nat.le_refl _, Nat.le_refl _⟩) hP hD hS hA [1, 2] rfl (fun r1 H locs hf hP hS => ?_)
            refine lv_if_le (tgt := 119) hx hb dX6_castShadow_89 (by decide) (fun hc6 => ?_) (fun hc6 => ?_)
            · have hf := hf.1 hc6
              exact L119 x5 a1_size a1_cells _ _ _ hf hP hD hS hl
            · have hf := hf.2 hc6
              refine lv_aload_n hx hb dX6_castShadow_92 rfl (lv_at hl 0 rfl) ?_
              refine va_get (D := (dC, dI)) (ci := 3) (v := .ref h_t_source) (C := RX6) (T := TX6) (N := 3) hx hb hts hinX6 hown hK hP 0 rfl rfl 0 (by decide) q1 (fun _ h9 => h9) rfl dX6_castShadow_93 ?_
              refine lv_iload hx hb dX6_castShadow_96 (lv_at hl 5 rfl) ?_
              refine lv_iload_n hx hb dX6_castShadow_98 rfl (lv_at hl 2 rfl) ?_
              refine gz_iR (va_runV (As := [.int x5, .int x2]) (rest := []) ⟨hx, hb, hml, hown, hts⟩ (c_X4_cell l dC dI cI cJ cC cZ h_t_source h_t_source_cells H.size n_t_source_cells t_source_size t_source_cells x5 x2 _ hf) (cwV 2 hts gX6_castShadow_X4_cell rfl rfl rfl (by decide +kernel) ⟨Nat.le_of_ble_eq_true rfl, Nat.le_of_ble_eq_true rfl⟩) ⟨gz_blind, va_recv hK hP (ci := 1) (q0 := 1) rfl rfl, gz_pre (gz_P_of hP (is := [1, 2]) (wc := [(h_t_source, .inr (1, [.ref h_t_source_cells, .int t_source_size])), (h_t_source_cells, .inl (cI, n_t_source_cells, .inl t_source_cells))]) rfl) hK (hD.sub [1, 2] (by decide) rfl) gz_N0⟩ rfl rfl hl.1 rfl (lv_room (Nat.le_of_ble_eq_true rfl)) dX6_castShadow_99 ⟨Nat.le_refl _, Nat.le_refl _⟩) hP hD hS hA [1, 2] rfl (fun r2 H locs hf hP hS => ?_)
              refine lv_if_ge (tgt := 119) hx hb dX6_castShadow_102 (by decide) (fun hc5 => ?_) (fun hc5 => ?_)
              · have hf := hf.1 hc5
                exact L119 x5 a1_size a1_cells _ _ _ hf hP hD hS hl
              · have hf := hf.2 hc5
                refine lv_aload_n hx hb dX6_castShadow_105 rfl (lv_at hl 1 rfl) ?_
                refine lv_aload_n hx hb dX6_castShadow_106 rfl (lv_at hl 0 rfl) ?_
                refine va_get (D := (dC, dI)) (ci := 3) (v := .ref h_t_source) (C := RX6) (T := TX6) (N := 3) hx hb hts hinX6 hown hK hP 0 rfl rfl 0 (by decide) q1 (fun _ h9 => h9) rfl dX6_castShadow_107 ?_
                refine lv_iload hx hb dX6_castShadow_110 (lv_at hl 4 rfl) ?_
                refine lv_iload hx hb dX6_castShadow_112 (lv_at hl 5 rfl) ?_
                refine lv_iload_n hx hb dX6_castShadow_114 rfl (lv_at hl 2 rfl) ?_
                refine lv_iload_n hx hb dX6_castShadow_115 rfl (lv_at hl 3 rfl) ?_
                refine gz_v (W1 := (fun u : Int32 × (Nat → Int32) => [(h_a1, .inr (1, [.ref h_a1_cells, .int u.1])), (h_a1_cells, .inl (cI, n_a1_cells, .inl u.2)), (h_t_source, .inr (1, [.ref h_t_source_cells, .int t_source_size])), (h_t_source_cells, .inl (cI, n_t_source_cells, .inl t_source_cells))])) (wn := (fun u : Int32 × (Nat → Int32) => [(h_t, .inr (3, [.ref h_t_source, .ref h_t_real, .ref h_t_dark])), (h_t_source, .inr (1, [.ref h_t_source_cells, .int t_source_size])), (h_t_source_cells, .inl (cI, n_t_source_cells, .inl t_source_cells)), (h_a1, .inr (1, [.ref h_a1_cells, .int u.1])), (h_a1_cells, .inl (cI, n_a1_cells, .inl u.2))])) (wr := [(h_t, .inr (3, [.ref h_t_source, .ref h_t_real, .ref h_t_dark]))]) (va_runV (As := [.ref h_t_source, .int x4, .int x5, .int x2, .int x3]) (rest := []) ⟨hx, hb, hml, hown, hts⟩ (c_X4_putPair l dC dI cI cJ cC cZ h_a1 h_a1_cells h_t_source h_t_source_cells H.size n_a1_cells n_t_source_cells a1_size a1_cells t_source_size t_source_cells x4 x5 x2 x3 _ hf) (cwV 5 hts gX6_castShadow_X4_putPair rfl rfl rfl (by decide +kernel) ⟨Nat.le_of_ble_eq_true rfl, Nat.le_of_ble_eq_true rfl⟩) ⟨gz_blind, va_recv hK hP (ci := 1) (q0 := 3) rfl rfl, gz_pre (gz_P_of hP (is := [3, 4, 1, 2]) (wc := [(h_a1, .inr (1, [.ref h_a1_cells, .int a1_size])), (h_a1_cells, .inl (cI, n_a1_cells, .inl a1_cells)), (h_t_source, .inr (1, [.ref h_t_source_cells, .int t_source_size])), (h_t_source_cells, .inl (cI, n_t_source_cells, .inl t_source_cells))]) rfl) hK (hD.sub [3, 4, 1, 2] (by decide) rfl) gz_N0⟩ rfl rfl hl.1 rfl (lv_room (Nat.le_of_ble_eq_true rfl)) dX6_castShadow_116 ⟨Nat.le_refl _, Nat.le_refl _⟩) hP hD hS hA [3, 4, 1, 2] [0] [0, 3, 4, 1, 2] rfl rfl (by decide) (by decide) (fun _ => rfl) (by decide) (fun  u H locs hf hP hD hS => ?_)
                obtain ⟨y3, y4⟩ := u
                have hP : va_P (dC, dI) vwCl [(h_t, .inr (3, [.ref h_t_source, .ref h_t_real, .ref h_t_dark])), (h_t_source, .inr (1, [.ref h_t_source_cells, .int t_source_size])), (h_t_source_cells, .inl (cI, n_t_source_cells, .inl t_source_cells)), (h_a1, .inr (1, [.ref h_a1_cells, .int y3])), (h_a1_cells, .inl (cI, n_a1_cells, .inl y4))] H := hP
                have hD : va_D A [(h_t, .inr (3, [.ref h_t_source, .ref h_t_real, .ref h_t_dark])), (h_t_source, .inr (1, [.ref h_t_source_cells, .int t_source_size])), (h_t_source_cells, .inl (cI, n_t_source_cells, .inl t_source_cells)), (h_a1, .inr (1, [.ref h_a1_cells, .int y3])), (h_a1_cells, .inl (cI, n_a1_cells, .inl y4))] := hD
                exact L119 x5 y3 y4 _ _ _ hf hP hD hS hl
      intro x4 a1_size a1_cells H locs ls hf hP hD hS hl
      have hf : p_X6_castShadow_52 n_t_source_cells n_a1_cells t_source_size t_source_cells x2 x3 Q (gi3 (p_X6_castShadow_52 n_t_source_cells n_a1_cells t_source_size t_source_cells x2 x3 Q) n) x4 a1_size a1_cells := hf
      rw [hK52] at hf
      refine lv_iload hx hb dX6_castShadow_52 (lv_at hl 4 rfl) ?_
      refine lv_aload_n hx hb dX6_castShadow_54 rfl (lv_at hl 0 rfl) ?_
      refine va_get (D := (dC, dI)) (ci := 3) (v := .ref h_t_source) (C := RX6) (T := TX6) (N := 3) hx hb hts hinX6 hown hK hP 0 rfl rfl 0 (by decide) q1 (fun _ h9 => h9) rfl dX6_castShadow_55 ?_
      refine va_get (D := (dC, dI)) (ci := 1) (v := .int t_source_size) (C := RX4) (T := TX4) (N := 2) hx hb hts hinX4 hown hK hP 1 rfl rfl 1 (by decide) q0 (fun _ h9 => h9) rfl dX6_castShadow_58 ?_
      refine lv_icmp_ge (tgt := 131) hx hb dX6_castShadow_61 (by decide) (fun hc8 => ?_) (fun hc8 => ?_)
      · have hf := hf.1 hc8
        exact ret _ _ _ _ (a1_size, a1_cells) hf hP hD hS dX6_castShadow_131
      · have hf := hf.2 hc8
        refine lv_iconst (v := (0 : Int32)) hx hb dX6_castShadow_64 (by decide) ?_
        refine lv_istore (lv' := [(5, .int (0 : Int32)), (0, .ref h_t), (1, .ref h_a1), (2, .int x2), (3, .int x3), (4, .int x4)]) hx hb dX6_castShadow_65 hl (by decide) rfl (fun ls hl => ?_)
        obtain ⟨n, hf⟩ := hf
        exact L67 x4 n (0 : Int32) a1_size a1_cells _ _ _ hf hP hD hS (lv_sub hl [1, 2, 3, 4, 5, 0] rfl)
  have L8 : ∀ (n : Nat) (x4 : Int32) (a1_size : Int32) (a1_cells : Nat → Int32) (H : Heap) (locs : List Loc) (ls : Array Slot), gi3 (p_X6_castShadow_8 n_t_source_cells n_a1_cells t_source_size t_source_cells x2 x3 Q) n x4 a1_size a1_cells → va_P (dC, dI) vwCl [(h_t, .inr (3, [.ref h_t_source, .ref h_t_real, .ref h_t_dark])), (h_t_source, .inr (1, [.ref h_t_source_cells, .int t_source_size])), (h_t_source_cells, .inl (cI, n_t_source_cells, .inl t_source_cells)), (h_a1, .inr (1, [.ref h_a1_cells, .int a1_size])), (h_a1_cells, .inl (cI, n_a1_cells, .inl a1_cells))] H → va_D A [(h_t, .inr (3, [.ref h_t_source, .ref h_t_real, .ref h_t_dark])), (h_t_source, .inr (1, [.ref h_t_source_cells, .int t_source_size])), (h_t_source_cells, .inl (cI, n_t_source_cells, .inl t_source_cells)), (h_a1, .inr (1, [.ref h_a1_cells, .int a1_size])), (h_a1_cells, .inl (cI, n_a1_cells, .inl a1_cells))] → va_S A s.heap H locs → lv_has ls 6 [(0, .ref h_t), (1, .ref h_a1), (2, .int x2), (3, .int x3), (4, .int x4)] → W p l e rm_X6_castShadow s m [.ref h_t, .ref h_a1, .int x2, .int x3].toArray below meth c H locs 0 0 QQ (F0 m 8 ls []) := by
    intro  n
    induction n with
    | zero => intro x4 a1_size a1_cells H locs ls hf; exact False.elim hf
    | succ n ih8 =>
      generalize hK8 : gi3 (p_X6_castShadow_8 n_t_source_cells n_a1_cells t_source_size t_source_cells x2 x3 Q) n = K8 at ih8
      have L43 : ∀ (x4 : Int32) (a1_size : Int32) (a1_cells : Nat → Int32) (H : Heap) (locs : List Loc) (ls : Array Slot), p_X6_castShadow_43 a1_size a1_cells x4 K8 → va_P (dC, dI) vwCl [(h_t, .inr (3, [.ref h_t_source, .ref h_t_real, .ref h_t_dark])), (h_t_source, .inr (1, [.ref h_t_source_cells, .int t_source_size])), (h_t_source_cells, .inl (cI, n_t_source_cells, .inl t_source_cells)), (h_a1, .inr (1, [.ref h_a1_cells, .int a1_size])), (h_a1_cells, .inl (cI, n_a1_cells, .inl a1_cells))] H → va_D A [(h_t, .inr (3, [.ref h_t_source, .ref h_t_real, .ref h_t_dark])), (h_t_source, .inr (1, [.ref h_t_source_cells, .int t_source_size])), (h_t_source_cells, .inl (cI, n_t_source_cells, .inl t_source_cells)), (h_a1, .inr (1, [.ref h_a1_cells, .int a1_size])), (h_a1_cells, .inl (cI, n_a1_cells, .inl a1_cells))] → va_S A s.heap H locs → lv_has ls 6 [(0, .ref h_t), (1, .ref h_a1), (2, .int x2), (3, .int x3), (4, .int x4)] → W p l e rm_X6_castShadow s m [.ref h_t, .ref h_a1, .int x2, .int x3].toArray below meth c H locs 0 0 QQ (F0 m 43 ls []) := by
        intro x4 a1_size a1_cells H locs ls hf hP hD hS hl
        refine lv_iinc (v := (x4 + (1 : Int32))) (lv' := [(4, .int (x4 + (1 : Int32))), (0, .ref h_t), (1, .ref h_a1), (2, .int x2), (3, .int x3)]) hx hb dX6_castShadow_43 hl (k := 4) rfl rfl (by decide) rfl (fun ls hl => ?_)
        refine lv_goto (tgt := 8) hx hb dX6_castShadow_46 (by decide) ?_
        exact ih8 (x4 + (1 : Int32)) a1_size a1_cells _ _ _ hf hP hD hS (lv_sub hl [1, 2, 3, 4, 0] rfl)
      intro x4 a1_size a1_cells H locs ls hf hP hD hS hl
      have hf : p_X6_castShadow_8 n_t_source_cells n_a1_cells t_source_size t_source_cells x2 x3 Q (gi3 (p_X6_castShadow_8 n_t_source_cells n_a1_cells t_source_size t_source_cells x2 x3 Q) n) x4 a1_size a1_cells := hf
      rw [hK8] at hf
      refine lv_iload hx hb dX6_castShadow_8 (lv_at hl 4 rfl) ?_
      refine lv_aload_n hx hb dX6_castShadow_10 rfl (lv_at hl 0 rfl) ?_
      refine va_get (D := (dC, dI)) (ci := 3) (v := .ref h_t_source) (C := RX6) (T := TX6) (N := 3) hx hb hts hinX6 hown hK hP 0 rfl rfl 0 (by decide) q1 (fun _ h9 => h9) rfl dX6_castShadow_11 ?_
      refine va_get (D := (dC, dI)) (ci := 1) (v := .int t_source_size) (C := RX4) (T := TX4) (N := 2) hx hb hts hinX4 hown hK hP 1 rfl rfl 1 (by decide) q0 (fun _ h9 => h9) rfl dX6_castShadow_14 ?_
      refine lv_icmp_ge (tgt := 49) hx hb dX6_castShadow_17 (by decide) (fun hc13 => ?_) (fun hc13 => ?_)
      · have hf := hf.1 hc13
        refine lv_iconst (v := (0 : Int32)) hx hb dX6_castShadow_49 (by decide) ?_
        refine lv_istore (lv' := [(4, .int (0 : Int32)), (0, .ref h_t), (1, .ref h_a1), (2, .int x2), (3, .int x3)]) hx hb dX6_castShadow_50 hl (by decide) rfl (fun ls hl => ?_)
        obtain ⟨n, hf⟩ := hf
        exact L52  n (0 : Int32) a1_size a1_cells _ _ _ hf hP hD hS (lv_sub hl [1, 2, 3, 4, 0] rfl)
      · have hf := hf.2 hc13
        refine lv_aload_n hx hb dX6_castShadow_20 rfl (lv_at hl 0 rfl) ?_
        refine va_get (D := (dC, dI)) (ci := 3) (v := .ref h_t_source) (C := RX6) (T := TX6) (N := 3) hx hb hts hinX6 hown hK hP 0 rfl rfl 0 (by decide) q1 (fun _ h9 => h9) rfl dX6_castShadow_21 ?_
        refine lv_iload hx hb dX6_castShadow_24 (lv_at hl 4 rfl) ?_
        refine lv_iload_n hx hb dX6_castShadow_26 rfl (lv_at hl 2 rfl) ?_
        refine gz_iR (va_runV (As := [.int x4, .int x2]) (rest := []) ⟨hx, hb, hml, hown, hts⟩ (c_X4_cell l dC dI cI cJ cC cZ h_t_source h_t_source_cells H.size n_t_source_cells t_source_size t_source_cells x4 x2 _ hf) (cwV 2 hts gX6_castShadow_X4_cell rfl rfl rfl (by decide +kernel) ⟨Nat.le_of_ble_eq_true rfl, Nat.le_of_ble_eq_true rfl⟩) ⟨gz_blind, va_recv hK hP (ci := 1) (q0 := 1) rfl rfl, gz_pre (gz_P_of hP (is := [1, 2]) (wc := [(h_t_source, .inr (1, [.ref h_t_source_cells, .int t_source_size])), (h_t_source_cells, .inl (cI, n_t_source_cells, .inl t_source_cells))]) rfl) hK (hD.sub [1, 2] (by decide) rfl) gz_N0⟩ rfl rfl hl.1 rfl (lv_room (Nat.le_of_ble_eq_true rfl)) dX6_castShadow_27 ⟨Nat.le_refl _, Nat.le_refl _⟩) hP hD hS hA [1, 2] rfl (fun r9 H locs hf hP hS => ?_)
        refine lv_if_ne (tgt := 43) hx hb dX6_castShadow_30 (by decide) (fun hc12 => ?_) (fun hc12 => ?_)
        · have hf := hf.2 hc12
          exact L43 x4 a1_size a1_cells _ _ _ hf hP hD hS hl
        · have hf := hf.1 hc12
          refine lv_aload_n hx hb dX6_castShadow_33 rfl (lv_at hl 1 rfl) ?_
          refine lv_aload_n hx hb dX6_castShadow_34 rfl (lv_at hl 0 rfl) ?_
          refine va_get (D := (dC, dI)) (ci := 3) (v := .ref h_t_source) (C := RX6) (T := TX6) (N := 3) hx hb hts hinX6 hown hK hP 0 rfl rfl 0 (by decide) q1 (fun _ h9 => h9) rfl dX6_castShadow_35 ?_
          refine lv_iload hx hb dX6_castShadow_38 (lv_at hl 4 rfl) ?_
          refine gz_v (W1 := (fun u : Int32 × (Nat → Int32) => [(h_a1, .inr (1, [.ref h_a1_cells, .int u.1])), (h_a1_cells, .inl (cI, n_a1_cells, .inl u.2)), (h_t_source, .inr (1, [.ref h_t_source_cells, .int t_source_size])), (h_t_source_cells, .inl (cI, n_t_source_cells, .inl t_source_cells))])) (wn := (fun u : Int32 × (Nat → Int32) => [(h_t, .inr (3, [.ref h_t_source, .ref h_t_real, .ref h_t_dark])), (h_t_source, .inr (1, [.ref h_t_source_cells, .int t_source_size])), (h_t_source_cells, .inl (cI, n_t_source_cells, .inl t_source_cells)), (h_a1, .inr (1, [.ref h_a1_cells, .int u.1])), (h_a1_cells, .inl (cI, n_a1_cells, .inl u.2))])) (wr := [(h_t, .inr (3, [.ref h_t_source, .ref h_t_real, .ref h_t_dark]))]) (va_runV (As := [.ref h_t_source, .int x4]) (rest := []) ⟨hx, hb, hml, hown, hts⟩ (c_X4_putAlike l dC dI cI cJ cC cZ h_a1 h_a1_cells h_t_source h_t_source_cells H.size n_a1_cells n_t_source_cells a1_size a1_cells t_source_size t_source_cells x4 _ hf) (cwV 2 hts gX6_castShadow_X4_putAlike rfl rfl rfl (by decide +kernel) ⟨Nat.le_of_ble_eq_true rfl, Nat.le_of_ble_eq_true rfl⟩) ⟨gz_blind, va_recv hK hP (ci := 1) (q0 := 3) rfl rfl, gz_pre (gz_P_of hP (is := [3, 4, 1, 2]) (wc := [(h_a1, .inr (1, [.ref h_a1_cells, .int a1_size])), (h_a1_cells, .inl (cI, n_a1_cells, .inl a1_cells)), (h_t_source, .inr (1, [.ref h_t_source_cells, .int t_source_size])), (h_t_source_cells, .inl (cI, n_t_source_cells, .inl t_source_cells))]) rfl) hK (hD.sub [3, 4, 1, 2] (by decide) rfl) gz_N0⟩ rfl rfl hl.1 rfl (lv_room (Nat.le_of_ble_eq_true rfl)) dX6_castShadow_40 ⟨Nat.le_refl _, Nat.le_refl _⟩) hP hD hS hA [3, 4, 1, 2] [0] [0, 3, 4, 1, 2] rfl rfl (by decide) (by decide) (fun _ => rfl) (by decide) (fun  u H locs hf hP hD hS => ?_)
          obtain ⟨y10, y11⟩ := u
          have hP : va_P (dC, dI) vwCl [(h_t, .inr (3, [.ref h_t_source, .ref h_t_real, .ref h_t_dark])), (h_t_source, .inr (1, [.ref h_t_source_cells, .int t_source_size])), (h_t_source_cells, .inl (cI, n_t_source_cells, .inl t_source_cells)), (h_a1, .inr (1, [.ref h_a1_cells, .int y10])), (h_a1_cells, .inl (cI, n_a1_cells, .inl y11))] H := hP
          have hD : va_D A [(h_t, .inr (3, [.ref h_t_source, .ref h_t_real, .ref h_t_dark])), (h_t_source, .inr (1, [.ref h_t_source_cells, .int t_source_size])), (h_t_source_cells, .inl (cI, n_t_source_cells, .inl t_source_cells)), (h_a1, .inr (1, [.ref h_a1_cells, .int y10])), (h_a1_cells, .inl (cI, n_a1_cells, .inl y11))] := hD
          exact L43 x4 y10 y11 _ _ _ hf hP hD hS hl
  have hf := hw
  refine lv_aload_n hx hb dX6_castShadow_0 rfl (lv_at hl 1 rfl) ?_
  refine lv_iconst (v := (0 : Int32)) hx hb dX6_castShadow_1 (by decide) ?_
  refine va_put (D := (dC, dI)) (ci := 1) (v := .int (0 : Int32)) (ty := .int) (C := RX4) (T := TX4) (N := 2) hx hb hts hinX4 tyX4 tyX4_ok nmX4 hown hK hP hD hS 3 rfl rfl 1 (by decide) q0 (fun _ h9 => h9) rfl (by decide +kernel) rfl rfl (Nat.le_of_ble_eq_true rfl) dX6_castShadow_2 (fun H locs hP hD hS => ?_)
  have hP : va_P (dC, dI) vwCl [(h_t, .inr (3, [.ref h_t_source, .ref h_t_real, .ref h_t_dark])), (h_t_source, .inr (1, [.ref h_t_source_cells, .int t_source_size])), (h_t_source_cells, .inl (cI, n_t_source_cells, .inl t_source_cells)), (h_a1, .inr (1, [.ref h_a1_cells, .int (0 : Int32)])), (h_a1_cells, .inl (cI, n_a1_cells, .inl a1_cells))] H := hP
  have hD : va_D A [(h_t, .inr (3, [.ref h_t_source, .ref h_t_real, .ref h_t_dark])), (h_t_source, .inr (1, [.ref h_t_source_cells, .int t_source_size])), (h_t_source_cells, .inl (cI, n_t_source_cells, .inl t_source_cells)), (h_a1, .inr (1, [.ref h_a1_cells, .int (0 : Int32)])), (h_a1_cells, .inl (cI, n_a1_cells, .inl a1_cells))] := hD
  refine lv_iconst (v := (0 : Int32)) hx hb dX6_castShadow_5 (by decide) ?_
  refine lv_istore (lv' := [(4, .int (0 : Int32)), (0, .ref h_t), (1, .ref h_a1), (2, .int x2), (3, .int x3)]) hx hb dX6_castShadow_6 hl (by decide) rfl (fun ls hl => ?_)
  obtain ⟨n, hf⟩ := hf
  exact L8  n (0 : Int32) (0 : Int32) a1_cells _ _ _ hf hP hD hS (lv_sub hl [1, 2, 3, 4, 0] rfl)
abbrev rm_X6_isGrey : Room := { frames := 2, cells := 0, slots := 0, locals := 47 }
set_option maxHeartbeats 4000000 in
set_option maxRecDepth 100000 in
theorem c_X6_isGrey (l : Launch) (dC : Nat → ClassId) (dI : Nat → Nat → Nat) (cI cJ cC cZ : ClassId) (h_t h_t_source h_t_real h_t_dark h_t_dark_cells h_t_real_cells : Nat) (sz : Nat) (n_t_dark_cells : Nat) (n_t_real_cells : Nat) (t_dark_size : Int32) (t_dark_cells : Nat → Int32) (t_real_size : Int32) (t_real_cells : Nat → Int32) (x1 : Int32) (Q : Int32 → Prop) (hw : p_X6_isGrey n_t_dark_cells n_t_real_cells t_dark_size t_dark_cells t_real_size t_real_cells x1 Q) : Met l yX6_isGrey wsX6_isGrey rm_X6_isGrey (va_Pc [.ref h_t, .int x1] (gz_B (dC, dI) (gz_T cI cJ cC cZ) [] sz [(h_t, .inr (3, [.ref h_t_source, .ref h_t_real, .ref h_t_dark])), (h_t_dark, .inr (1, [.ref h_t_dark_cells, .int t_dark_size])), (h_t_dark_cells, .inl (cI, n_t_dark_cells, .inl t_dark_cells)), (h_t_real, .inr (1, [.ref h_t_real_cells, .int t_real_size])), (h_t_real_cells, .inl (cI, n_t_real_cells, .inl t_real_cells))])) (va_Qi (fun (r : Int32) (u : Unit) => Q r) (fun u t => gz_E (dC, dI) (gz_T cI cJ cC cZ) (va_A [(h_t, .inr (3, [.ref h_t_source, .ref h_t_real, .ref h_t_dark])), (h_t_dark, .inr (1, [.ref h_t_dark_cells, .int t_dark_size])), (h_t_dark_cells, .inl (cI, n_t_dark_cells, .inl t_dark_cells)), (h_t_real, .inr (1, [.ref h_t_real_cells, .int t_real_size])), (h_t_real_cells, .inl (cI, n_t_real_cells, .inl t_real_cells))] sz) [(h_t, .inr (3, [.ref h_t_source, .ref h_t_real, .ref h_t_dark])), (h_t_dark, .inr (1, [.ref h_t_dark_cells, .int t_dark_size])), (h_t_dark_cells, .inl (cI, n_t_dark_cells, .inl t_dark_cells)), (h_t_real, .inr (1, [.ref h_t_real_cells, .int t_real_size])), (h_t_real_cells, .inl (cI, n_t_real_cells, .inl t_real_cells))] t) (va_A [(h_t, .inr (3, [.ref h_t_source, .ref h_t_real, .ref h_t_dark])), (h_t_dark, .inr (1, [.ref h_t_dark_cells, .int t_dark_size])), (h_t_dark_cells, .inl (cI, n_t_dark_cells, .inl t_dark_cells)), (h_t_real, .inr (1, [.ref h_t_real_cells, .int t_real_size])), (h_t_real_cells, .inl (cI, n_t_real_cells, .inl t_real_cells))] sz)) 0 0 (va_A [(h_t, .inr (3, [.ref h_t_source, .ref h_t_real, .ref h_t_dark])), (h_t_dark, .inr (1, [.ref h_t_dark_cells, .int t_dark_size])), (h_t_dark_cells, .inl (cI, n_t_dark_cells, .inl t_dark_cells)), (h_t_real, .inr (1, [.ref h_t_real_cells, .int t_real_size])), (h_t_real_cells, .inl (cI, n_t_real_cells, .inl t_real_cells))] sz) := by
  refine gz_mz (cc := cX6_isGrey) (maxL := 2) (plainFor_of_name (by decide +kernel)) rfl (Nat.le_of_ble_eq_true rfl) ?_
  intro p e s m below meth c A QQ ls hx hb hml hown0 hts hK hN hA hP hD hS hl ret
  have hown : s.vm.findClass RX6 = some m.cls := hown0
  have hl : lv_has ls 2 [(0, .ref h_t), (1, .int x1)] := hl
  have q0 := hts (.fieldLink RX6 20 "DarkShadows$Shade" "real" "LDarkShadows$Rows;") (List.mem_cons_of_mem _ (List.mem_append_left _ (List.mem_append_left _ (List.mem_of_getElem? (i := 0) rfl))))
  have hinX6 : ∀ w ∈ wsX60, w ∈ wsX6_isGrey := fun w h => List.mem_cons_of_mem _ (List.mem_append_left _ (List.mem_append_right _ h))
  have q2 := hts (.fieldLink RX6 23 "DarkShadows$Shade" "dark" "LDarkShadows$Rows;") (List.mem_cons_of_mem _ (List.mem_append_left _ (List.mem_append_left _ (List.mem_of_getElem? (i := 1) rfl))))
  have hf := hw
  refine lv_aload_n hx hb dX6_isGrey_0 rfl (lv_at hl 0 rfl) ?_
  refine va_get (D := (dC, dI)) (ci := 3) (v := .ref h_t_real) (C := RX6) (T := TX6) (N := 3) hx hb hts hinX6 hown hK hP 0 rfl rfl 1 (by decide) q0 (fun _ h9 => h9) rfl dX6_isGrey_1 ?_
  refine lv_iload_n hx hb dX6_isGrey_4 rfl (lv_at hl 1 rfl) ?_
  refine gz_iR (va_runV (As := [.int x1]) (rest := []) ⟨hx, hb, hml, hown, hts⟩ (c_X4_areFulfilled l dC dI cI cJ cC cZ h_t_real h_t_real_cells s.heap.size n_t_real_cells t_real_size t_real_cells x1 _ hf) (cwV 1 hts gX6_isGrey_X4_areFulfilled rfl rfl rfl (by decide +kernel) ⟨Nat.le_of_ble_eq_true rfl, Nat.le_of_ble_eq_true rfl⟩) ⟨gz_blind, va_recv hK hP (ci := 1) (q0 := 3) rfl rfl, gz_pre (gz_P_of hP (is := [3, 4]) (wc := [(h_t_real, .inr (1, [.ref h_t_real_cells, .int t_real_size])), (h_t_real_cells, .inl (cI, n_t_real_cells, .inl t_real_cells))]) rfl) hK (hD.sub [3, 4] (by decide) rfl) gz_N0⟩ rfl rfl hl.1 rfl (lv_room (Nat.le_of_ble_eq_true rfl)) dX6_isGrey_5 ⟨Nat.le_refl _, Nat.le_refl _⟩) hP hD hS hA [3, 4] rfl (fun r1 H locs hf hP hS => ?_)
  refine lv_if_eq (tgt := 26) hx hb dX6_isGrey_8 (by decide) (fun hc4 => ?_) (fun hc4 => ?_)
  · have hf := hf.1 hc4
    refine lv_iconst (v := (0 : Int32)) hx hb dX6_isGrey_26 (by decide) ?_
    exact ret _ _ _ _ (0 : Int32) () rfl hf hP hD hS dX6_isGrey_27
  · have hf := hf.2 hc4
    refine lv_aload_n hx hb dX6_isGrey_11 rfl (lv_at hl 0 rfl) ?_
    refine va_get (D := (dC, dI)) (ci := 3) (v := .ref h_t_dark) (C := RX6) (T := TX6) (N := 3) hx hb hts hinX6 hown hK hP 0 rfl rfl 2 (by decide) q2 (fun _ h9 => h9) rfl dX6_isGrey_12 ?_
    refine lv_iload_n hx hb dX6_isGrey_15 rfl (lv_at hl 1 rfl) ?_
    refine gz_iR (va_runV (As := [.int x1]) (rest := []) ⟨hx, hb, hml, hown, hts⟩ (c_X4_areFulfilled l dC dI cI cJ cC cZ h_t_dark h_t_dark_cells H.size n_t_dark_cells t_dark_size t_dark_cells x1 _ hf) (cwV 1 hts gX6_isGrey_X4_areFulfilled rfl rfl rfl (by decide +kernel) ⟨Nat.le_of_ble_eq_true rfl, Nat.le_of_ble_eq_true rfl⟩) ⟨gz_blind, va_recv hK hP (ci := 1) (q0 := 1) rfl rfl, gz_pre (gz_P_of hP (is := [1, 2]) (wc := [(h_t_dark, .inr (1, [.ref h_t_dark_cells, .int t_dark_size])), (h_t_dark_cells, .inl (cI, n_t_dark_cells, .inl t_dark_cells))]) rfl) hK (hD.sub [1, 2] (by decide) rfl) gz_N0⟩ rfl rfl hl.1 rfl (lv_room (Nat.le_of_ble_eq_true rfl)) dX6_isGrey_16 ⟨Nat.le_refl _, Nat.le_refl _⟩) hP hD hS hA [1, 2] rfl (fun r2 H locs hf hP hS => ?_)
    refine lv_if_ne (tgt := 26) hx hb dX6_isGrey_19 (by decide) (fun hc3 => ?_) (fun hc3 => ?_)
    · have hf := hf.2 hc3
      refine lv_iconst (v := (0 : Int32)) hx hb dX6_isGrey_26 (by decide) ?_
      exact ret _ _ _ _ (0 : Int32) () rfl hf hP hD hS dX6_isGrey_27
    · have hf := hf.1 hc3
      refine lv_iconst (v := (1 : Int32)) hx hb dX6_isGrey_22 (by decide) ?_
      refine lv_goto (tgt := 27) hx hb dX6_isGrey_23 (by decide) ?_
      exact ret _ _ _ _ (1 : Int32) () rfl hf hP hD hS dX6_isGrey_27
abbrev rm_X6_isTrue : Room := { frames := 2, cells := 0, slots := 0, locals := 47 }
set_option maxHeartbeats 4000000 in
set_option maxRecDepth 100000 in
theorem c_X6_isTrue (l : Launch) (dC : Nat → ClassId) (dI : Nat → Nat → Nat) (cI cJ cC cZ : ClassId) (h_t h_t_source h_t_real h_t_dark h_t_source_cells h_a1 h_a1_cells : Nat) (sz : Nat) (n_t_source_cells : Nat) (t_source_size : Int32) (t_source_cells : Nat → Int32) (a1_size : Int32) (a1_most : Int32) (a1_draw : Int32) (a1_changes : Int32) (x2 : Int32) (x3 : Int32) (Q : Int32 → Prop) (hw : p_X6_isTrue n_t_source_cells t_source_size t_source_cells a1_most x2 x3 Q) : Met l yX6_isTrue wsX6_isTrue rm_X6_isTrue (va_Pc [.ref h_t, .ref h_a1, .int x2, .int x3] (gz_B (dC, dI) (gz_T cI cJ cC cZ) [] sz [(h_t, .inr (3, [.ref h_t_source, .ref h_t_real, .ref h_t_dark])), (h_t_source, .inr (1, [.ref h_t_source_cells, .int t_source_size])), (h_t_source_cells, .inl (cI, n_t_source_cells, .inl t_source_cells)), (h_a1, .inr (6, [.ref h_a1_cells, .int a1_size, .int a1_most, .int a1_draw, .int a1_changes]))])) (va_Qi (fun (r : Int32) (u : Unit) => Q r) (fun u t => gz_E (dC, dI) (gz_T cI cJ cC cZ) (va_A [(h_t, .inr (3, [.ref h_t_source, .ref h_t_real, .ref h_t_dark])), (h_t_source, .inr (1, [.ref h_t_source_cells, .int t_source_size])), (h_t_source_cells, .inl (cI, n_t_source_cells, .inl t_source_cells)), (h_a1, .inr (6, [.ref h_a1_cells, .int a1_size, .int a1_most, .int a1_draw, .int a1_changes]))] sz) [(h_t, .inr (3, [.ref h_t_source, .ref h_t_real, .ref h_t_dark])), (h_t_source, .inr (1, [.ref h_t_source_cells, .int t_source_size])), (h_t_source_cells, .inl (cI, n_t_source_cells, .inl t_source_cells)), (h_a1, .inr (6, [.ref h_a1_cells, .int a1_size, .int a1_most, .int a1_draw, .int a1_changes]))] t) (va_A [(h_t, .inr (3, [.ref h_t_source, .ref h_t_real, .ref h_t_dark])), (h_t_source, .inr (1, [.ref h_t_source_cells, .int t_source_size])), (h_t_source_cells, .inl (cI, n_t_source_cells, .inl t_source_cells)), (h_a1, .inr (6, [.ref h_a1_cells, .int a1_size, .int a1_most, .int a1_draw, .int a1_changes]))] sz)) 0 0 (va_A [(h_t, .inr (3, [.ref h_t_source, .ref h_t_real, .ref h_t_dark])), (h_t_source, .inr (1, [.ref h_t_source_cells, .int t_source_size])), (h_t_source_cells, .inl (cI, n_t_source_cells, .inl t_source_cells)), (h_a1, .inr (6, [.ref h_a1_cells, .int a1_size, .int a1_most, .int a1_draw, .int a1_changes]))] sz) := by
  refine gz_mz (cc := cX6_isTrue) (maxL := 5) (plainFor_of_name (by decide +kernel)) rfl (Nat.le_of_ble_eq_true rfl) ?_
  intro p e s m below meth c A QQ ls hx hb hml hown0 hts hK hN hA hP hD hS hl ret
  have hown : s.vm.findClass RX6 = some m.cls := hown0
  have hl : lv_has ls 5 [(0, .ref h_t), (1, .ref h_a1), (2, .int x2), (3, .int x3)] := hl
  have q0 := hts (.fieldLink RX6 60 "DarkShadows$Told" "most" "I") (List.mem_cons_of_mem _ (List.mem_append_left _ (List.mem_append_left _ (List.mem_append_left _ (List.mem_of_getElem? (i := 0) rfl)))))
  have hinX9 : ∀ w ∈ wsX90, w ∈ wsX6_isTrue := fun w h => List.mem_cons_of_mem _ (List.mem_append_left _ (List.mem_append_left _ (List.mem_append_right _ h)))
  have q2 := hts (.fieldLink RX6 16 "DarkShadows$Shade" "source" "LDarkShadows$Rows;") (List.mem_cons_of_mem _ (List.mem_append_left _ (List.mem_append_left _ (List.mem_append_left _ (List.mem_of_getElem? (i := 1) rfl)))))
  have hinX6 : ∀ w ∈ wsX60, w ∈ wsX6_isTrue := fun w h => List.mem_cons_of_mem _ (List.mem_append_left _ (List.mem_append_right _ h))
  have L3 : ∀ (n : Nat) (x4 : Int32) (H : Heap) (locs : List Loc) (ls : Array Slot), gi1 (p_X6_isTrue_3 n_t_source_cells t_source_size t_source_cells a1_most x2 x3 Q) n x4 → va_P (dC, dI) vwCl [(h_t, .inr (3, [.ref h_t_source, .ref h_t_real, .ref h_t_dark])), (h_t_source, .inr (1, [.ref h_t_source_cells, .int t_source_size])), (h_t_source_cells, .inl (cI, n_t_source_cells, .inl t_source_cells)), (h_a1, .inr (6, [.ref h_a1_cells, .int a1_size, .int a1_most, .int a1_draw, .int a1_changes]))] H → va_D A [(h_t, .inr (3, [.ref h_t_source, .ref h_t_real, .ref h_t_dark])), (h_t_source, .inr (1, [.ref h_t_source_cells, .int t_source_size])), (h_t_source_cells, .inl (cI, n_t_source_cells, .inl t_source_cells)), (h_a1, .inr (6, [.ref h_a1_cells, .int a1_size, .int a1_most, .int a1_draw, .int a1_changes]))] → va_S A s.heap H locs → lv_has ls 5 [(0, .ref h_t), (1, .ref h_a1), (2, .int x2), (3, .int x3), (4, .int x4)] → W p l e rm_X6_isTrue s m [.ref h_t, .ref h_a1, .int x2, .int x3].toArray below meth c H locs 0 0 QQ (F0 m 3 ls []) := by
    intro  n
    induction n with
    | zero => intro x4 H locs ls hf; exact False.elim hf
    | succ n ih3 =>
      generalize hK3 : gi1 (p_X6_isTrue_3 n_t_source_cells t_source_size t_source_cells a1_most x2 x3 Q) n = K3 at ih3
      intro x4 H locs ls hf hP hD hS hl
      have hf : p_X6_isTrue_3 n_t_source_cells t_source_size t_source_cells a1_most x2 x3 Q (gi1 (p_X6_isTrue_3 n_t_source_cells t_source_size t_source_cells a1_most x2 x3 Q) n) x4 := hf
      rw [hK3] at hf
      refine lv_iload hx hb dX6_isTrue_3 (lv_at hl 4 rfl) ?_
      refine lv_aload_n hx hb dX6_isTrue_5 rfl (lv_at hl 1 rfl) ?_
      refine va_get (D := (dC, dI)) (ci := 6) (v := .int a1_most) (C := RX9) (T := TX9) (N := 5) hx hb hts hinX9 hown hK hP 3 rfl rfl 2 (by decide) q0 (fun _ h9 => h9) rfl dX6_isTrue_6 ?_
      refine lv_icmp_gt (tgt := 37) hx hb dX6_isTrue_9 (by decide) (fun hc4 => ?_) (fun hc4 => ?_)
      · have hf := hf.1 hc4
        refine lv_iconst (v := (0 : Int32)) hx hb dX6_isTrue_37 (by decide) ?_
        exact ret _ _ _ _ (0 : Int32) () rfl hf hP hD hS dX6_isTrue_38
      · have hf := hf.2 hc4
        refine lv_aload_n hx hb dX6_isTrue_12 rfl (lv_at hl 0 rfl) ?_
        refine va_get (D := (dC, dI)) (ci := 3) (v := .ref h_t_source) (C := RX6) (T := TX6) (N := 3) hx hb hts hinX6 hown hK hP 0 rfl rfl 0 (by decide) q2 (fun _ h9 => h9) rfl dX6_isTrue_13 ?_
        refine lv_iload_n hx hb dX6_isTrue_16 rfl (lv_at hl 3 rfl) ?_
        refine lv_iload_n hx hb dX6_isTrue_17 rfl (lv_at hl 2 rfl) ?_
        refine lv_iload hx hb dX6_isTrue_18 (lv_at hl 4 rfl) ?_
        refine gz_i0 (va_runS (As := [.int x3, .int x2, .int x4]) (rest := [.ref h_t_source]) ⟨hx, hb, hml, hown, hts⟩ (c_X3_withValue l dC dI cI cJ cC cZ H.size x3 x2 x4 _ hf) (va_cwS 3 hts gX6_isTrue_X3_withValue rfl rfl rfl (by decide +kernel) ⟨Nat.le_of_ble_eq_true rfl, Nat.le_of_ble_eq_true rfl⟩) ⟨gz_blind, gz_pre (gz_P_of hP (is := []) (wc := []) rfl) hK (hD.sub [] (by decide) rfl) gz_N0⟩ rfl rfl hl.1 rfl (lv_room (Nat.le_of_ble_eq_true rfl)) dX6_isTrue_20 ⟨Nat.le_refl _, Nat.le_refl _⟩) hP hD hS hA (fun r1 H locs hf hP hS => ?_)
        refine gz_iR (va_runV (As := [.int r1]) (rest := []) ⟨hx, hb, hml, hown, hts⟩ (c_X4_areFulfilled l dC dI cI cJ cC cZ h_t_source h_t_source_cells H.size n_t_source_cells t_source_size t_source_cells r1 _ hf) (cwV 1 hts gX6_isTrue_X4_areFulfilled rfl rfl rfl (by decide +kernel) ⟨Nat.le_of_ble_eq_true rfl, Nat.le_of_ble_eq_true rfl⟩) ⟨gz_blind, va_recv hK hP (ci := 1) (q0 := 1) rfl rfl, gz_pre (gz_P_of hP (is := [1, 2]) (wc := [(h_t_source, .inr (1, [.ref h_t_source_cells, .int t_source_size])), (h_t_source_cells, .inl (cI, n_t_source_cells, .inl t_source_cells))]) rfl) hK (hD.sub [1, 2] (by decide) rfl) gz_N0⟩ rfl rfl hl.1 rfl (lv_room (Nat.le_of_ble_eq_true rfl)) dX6_isTrue_23 ⟨Nat.le_refl _, Nat.le_refl _⟩) hP hD hS hA [1, 2] rfl (fun r2 H locs hf hP hS => ?_)
        refine lv_if_eq (tgt := 31) hx hb dX6_isTrue_26 (by decide) (fun hc3 => ?_) (fun hc3 => ?_)
        · have hf := hf.1 hc3
          refine lv_iinc (v := (x4 + (1 : Int32))) (lv' := [(4, .int (x4 + (1 : Int32))), (0, .ref h_t), (1, .ref h_a1), (2, .int x2), (3, .int x3)]) hx hb dX6_isTrue_31 hl (k := 4) rfl rfl (by decide) rfl (fun ls hl => ?_)
          refine lv_goto (tgt := 3) hx hb dX6_isTrue_34 (by decide) ?_
          exact ih3 (x4 + (1 : Int32)) _ _ _ hf hP hD hS (lv_sub hl [1, 2, 3, 4, 0] rfl)
        · have hf := hf.2 hc3
          refine lv_iconst (v := (1 : Int32)) hx hb dX6_isTrue_29 (by decide) ?_
          exact ret _ _ _ _ (1 : Int32) () rfl hf hP hD hS dX6_isTrue_30
  have hf := hw
  refine lv_iconst (v := (0 : Int32)) hx hb dX6_isTrue_0 (by decide) ?_
  refine lv_istore (lv' := [(4, .int (0 : Int32)), (0, .ref h_t), (1, .ref h_a1), (2, .int x2), (3, .int x3)]) hx hb dX6_isTrue_1 hl (by decide) rfl (fun ls hl => ?_)
  obtain ⟨n, hf⟩ := hf
  exact L3  n (0 : Int32) _ _ _ hf hP hD hS (lv_sub hl [1, 2, 3, 4, 0] rfl)
abbrev rm_X6_isCounted : Room := { frames := 3, cells := 0, slots := 0, locals := 71 }
set_option maxHeartbeats 4000000 in
set_option maxRecDepth 100000 in
theorem c_X6_isCounted (l : Launch) (dC : Nat → ClassId) (dI : Nat → Nat → Nat) (cI cJ cC cZ : ClassId) (h_t h_t_source h_t_real h_t_dark h_t_dark_cells h_t_real_cells h_t_source_cells h_a1 h_a1_cells : Nat) (sz : Nat) (n_t_dark_cells : Nat) (n_t_real_cells : Nat) (n_t_source_cells : Nat) (t_dark_size : Int32) (t_dark_cells : Nat → Int32) (t_real_size : Int32) (t_real_cells : Nat → Int32) (t_source_size : Int32) (t_source_cells : Nat → Int32) (a1_size : Int32) (a1_most : Int32) (a1_draw : Int32) (a1_changes : Int32) (x2 : Int32) (x3 : Int32) (x4 : Int32) (Q : Int32 → Prop) (hw : p_X6_isCounted n_t_dark_cells n_t_real_cells n_t_source_cells t_dark_size t_dark_cells t_real_size t_real_cells t_source_size t_source_cells a1_most x2 x3 x4 Q) : Met l yX6_isCounted wsX6_isCounted rm_X6_isCounted (va_Pc [.ref h_t, .ref h_a1, .int x2, .int x3, .int x4] (gz_B (dC, dI) (gz_T cI cJ cC cZ) [] sz [(h_t, .inr (3, [.ref h_t_source, .ref h_t_real, .ref h_t_dark])), (h_t_dark, .inr (1, [.ref h_t_dark_cells, .int t_dark_size])), (h_t_dark_cells, .inl (cI, n_t_dark_cells, .inl t_dark_cells)), (h_t_real, .inr (1, [.ref h_t_real_cells, .int t_real_size])), (h_t_real_cells, .inl (cI, n_t_real_cells, .inl t_real_cells)), (h_t_source, .inr (1, [.ref h_t_source_cells, .int t_source_size])), (h_t_source_cells, .inl (cI, n_t_source_cells, .inl t_source_cells)), (h_a1, .inr (6, [.ref h_a1_cells, .int a1_size, .int a1_most, .int a1_draw, .int a1_changes]))])) (va_Qi (fun (r : Int32) (u : Unit) => Q r) (fun u t => gz_E (dC, dI) (gz_T cI cJ cC cZ) (va_A [(h_t, .inr (3, [.ref h_t_source, .ref h_t_real, .ref h_t_dark])), (h_t_dark, .inr (1, [.ref h_t_dark_cells, .int t_dark_size])), (h_t_dark_cells, .inl (cI, n_t_dark_cells, .inl t_dark_cells)), (h_t_real, .inr (1, [.ref h_t_real_cells, .int t_real_size])), (h_t_real_cells, .inl (cI, n_t_real_cells, .inl t_real_cells)), (h_t_source, .inr (1, [.ref h_t_source_cells, .int t_source_size])), (h_t_source_cells, .inl (cI, n_t_source_cells, .inl t_source_cells)), (h_a1, .inr (6, [.ref h_a1_cells, .int a1_size, .int a1_most, .int a1_draw, .int a1_changes]))] sz) [(h_t, .inr (3, [.ref h_t_source, .ref h_t_real, .ref h_t_dark])), (h_t_dark, .inr (1, [.ref h_t_dark_cells, .int t_dark_size])), (h_t_dark_cells, .inl (cI, n_t_dark_cells, .inl t_dark_cells)), (h_t_real, .inr (1, [.ref h_t_real_cells, .int t_real_size])), (h_t_real_cells, .inl (cI, n_t_real_cells, .inl t_real_cells)), (h_t_source, .inr (1, [.ref h_t_source_cells, .int t_source_size])), (h_t_source_cells, .inl (cI, n_t_source_cells, .inl t_source_cells)), (h_a1, .inr (6, [.ref h_a1_cells, .int a1_size, .int a1_most, .int a1_draw, .int a1_changes]))] t) (va_A [(h_t, .inr (3, [.ref h_t_source, .ref h_t_real, .ref h_t_dark])), (h_t_dark, .inr (1, [.ref h_t_dark_cells, .int t_dark_size])), (h_t_dark_cells, .inl (cI, n_t_dark_cells, .inl t_dark_cells)), (h_t_real, .inr (1, [.ref h_t_real_cells, .int t_real_size])), (h_t_real_cells, .inl (cI, n_t_real_cells, .inl t_real_cells)), (h_t_source, .inr (1, [.ref h_t_source_cells, .int t_source_size])), (h_t_source_cells, .inl (cI, n_t_source_cells, .inl t_source_cells)), (h_a1, .inr (6, [.ref h_a1_cells, .int a1_size, .int a1_most, .int a1_draw, .int a1_changes]))] sz)) 0 0 (va_A [(h_t, .inr (3, [.ref h_t_source, .ref h_t_real, .ref h_t_dark])), (h_t_dark, .inr (1, [.ref h_t_dark_cells, .int t_dark_size])), (h_t_dark_cells, .inl (cI, n_t_dark_cells, .inl t_dark_cells)), (h_t_real, .inr (1, [.ref h_t_real_cells, .int t_real_size])), (h_t_real_cells, .inl (cI, n_t_real_cells, .inl t_real_cells)), (h_t_source, .inr (1, [.ref h_t_source_cells, .int t_source_size])), (h_t_source_cells, .inl (cI, n_t_source_cells, .inl t_source_cells)), (h_a1, .inr (6, [.ref h_a1_cells, .int a1_size, .int a1_most, .int a1_draw, .int a1_changes]))] sz) := by
  refine gz_mz (cc := cX6_isCounted) (maxL := 5) (plainFor_of_name (by decide +kernel)) rfl (Nat.le_of_ble_eq_true rfl) ?_
  intro p e s m below meth c A QQ ls hx hb hml hown0 hts hK hN hA hP hD hS hl ret
  have hown : s.vm.findClass RX6 = some m.cls := hown0
  have hl : lv_has ls 5 [(0, .ref h_t), (1, .ref h_a1), (2, .int x2), (3, .int x3), (4, .int x4)] := hl
  have q0 := hts (.fieldLink RX6 20 "DarkShadows$Shade" "real" "LDarkShadows$Rows;") (List.mem_cons_of_mem _ (List.mem_append_left _ (List.mem_append_left _ (List.mem_append_left _ (List.mem_append_left _ (List.mem_of_getElem? (i := 0) rfl))))))
  have hinX6 : ∀ w ∈ wsX60, w ∈ wsX6_isCounted := fun w h => List.mem_cons_of_mem _ (List.mem_append_left _ (List.mem_append_left _ (List.mem_append_right _ h)))
  have q2 := hts (.fieldLink RX6 23 "DarkShadows$Shade" "dark" "LDarkShadows$Rows;") (List.mem_cons_of_mem _ (List.mem_append_left _ (List.mem_append_left _ (List.mem_append_left _ (List.mem_append_left _ (List.mem_of_getElem? (i := 1) rfl))))))
  have hf := hw
  refine lv_iload hx hb dX6_isCounted_0 (lv_at hl 4 rfl) ?_
  by_cases hc9 : x4 = (0 : Int32)
  · have hf := hf.1 hc9
    refine lv_tableIn (off := 30) (tgt := 32) hx hb dX6_isCounted_2 (by rw [hc9]; decide) (by rw [hc9]; decide) (by rw [hc9]; rfl) (by decide) ?_
    refine lv_aload_n hx hb dX6_isCounted_32 rfl (lv_at hl 0 rfl) ?_
    refine va_get (D := (dC, dI)) (ci := 3) (v := .ref h_t_real) (C := RX6) (T := TX6) (N := 3) hx hb hts hinX6 hown hK hP 0 rfl rfl 1 (by decide) q0 (fun _ h9 => h9) rfl dX6_isCounted_33 ?_
    refine lv_iload_n hx hb dX6_isCounted_36 rfl (lv_at hl 3 rfl) ?_
    refine gz_iR (va_runV (As := [.int x3]) (rest := []) ⟨hx, hb, hml, hown, hts⟩ (c_X4_areFulfilled l dC dI cI cJ cC cZ h_t_real h_t_real_cells s.heap.size n_t_real_cells t_real_size t_real_cells x3 _ hf) (cwV 1 hts gX6_isCounted_X4_areFulfilled rfl rfl rfl (by decide +kernel) ⟨Nat.le_of_ble_eq_true rfl, Nat.le_of_ble_eq_true rfl⟩) ⟨gz_blind, va_recv hK hP (ci := 1) (q0 := 3) rfl rfl, gz_pre (gz_P_of hP (is := [3, 4]) (wc := [(h_t_real, .inr (1, [.ref h_t_real_cells, .int t_real_size])), (h_t_real_cells, .inl (cI, n_t_real_cells, .inl t_real_cells))]) rfl) hK (hD.sub [3, 4] (by decide) rfl) gz_N0⟩ rfl rfl hl.1 rfl (lv_room (Nat.le_of_ble_eq_true rfl)) dX6_isCounted_37 ⟨Nat.le_refl _, Nat.le_refl _⟩) hP hD hS hA [3, 4] rfl (fun r1 H locs hf hP hS => ?_)
    exact ret _ _ _ _ r1 () hf.1 hf.2 hP hD hS dX6_isCounted_40
  · have hf := hf.2 hc9
    by_cases hc10 : x4 = (1 : Int32)
    · have hf := hf.1 hc10
      refine lv_tableIn (off := 39) (tgt := 41) hx hb dX6_isCounted_2 (by rw [hc10]; decide) (by rw [hc10]; decide) (by rw [hc10]; rfl) (by decide) ?_
      refine lv_aload_n hx hb dX6_isCounted_41 rfl (lv_at hl 0 rfl) ?_
      refine va_get (D := (dC, dI)) (ci := 3) (v := .ref h_t_dark) (C := RX6) (T := TX6) (N := 3) hx hb hts hinX6 hown hK hP 0 rfl rfl 2 (by decide) q2 (fun _ h9 => h9) rfl dX6_isCounted_42 ?_
      refine lv_iload_n hx hb dX6_isCounted_45 rfl (lv_at hl 3 rfl) ?_
      refine gz_iR (va_runV (As := [.int x3]) (rest := []) ⟨hx, hb, hml, hown, hts⟩ (c_X4_areFulfilled l dC dI cI cJ cC cZ h_t_dark h_t_dark_cells s.heap.size n_t_dark_cells t_dark_size t_dark_cells x3 _ hf) (cwV 1 hts gX6_isCounted_X4_areFulfilled rfl rfl rfl (by decide +kernel) ⟨Nat.le_of_ble_eq_true rfl, Nat.le_of_ble_eq_true rfl⟩) ⟨gz_blind, va_recv hK hP (ci := 1) (q0 := 1) rfl rfl, gz_pre (gz_P_of hP (is := [1, 2]) (wc := [(h_t_dark, .inr (1, [.ref h_t_dark_cells, .int t_dark_size])), (h_t_dark_cells, .inl (cI, n_t_dark_cells, .inl t_dark_cells))]) rfl) hK (hD.sub [1, 2] (by decide) rfl) gz_N0⟩ rfl rfl hl.1 rfl (lv_room (Nat.le_of_ble_eq_true rfl)) dX6_isCounted_46 ⟨Nat.le_refl _, Nat.le_refl _⟩) hP hD hS hA [1, 2] rfl (fun r2 H locs hf hP hS => ?_)
      exact ret _ _ _ _ r2 () hf.1 hf.2 hP hD hS dX6_isCounted_49
    · have hf := hf.2 hc10
      by_cases hc11 : x4 = (2 : Int32)
      · have hf := hf.1 hc11
        refine lv_tableIn (off := 48) (tgt := 50) hx hb dX6_isCounted_2 (by rw [hc11]; decide) (by rw [hc11]; decide) (by rw [hc11]; rfl) (by decide) ?_
        refine lv_aload_n hx hb dX6_isCounted_50 rfl (lv_at hl 0 rfl) ?_
        refine lv_aload_n hx hb dX6_isCounted_51 rfl (lv_at hl 1 rfl) ?_
        refine lv_iload_n hx hb dX6_isCounted_52 rfl (lv_at hl 2 rfl) ?_
        refine lv_iload_n hx hb dX6_isCounted_53 rfl (lv_at hl 3 rfl) ?_
        refine gz_iR (va_runV (As := [.ref h_a1, .int x2, .int x3]) (rest := []) ⟨hx, hb, hml, hown, hts⟩ (c_X6_isTrue l dC dI cI cJ cC cZ h_t h_t_source h_t_real h_t_dark h_t_source_cells h_a1 h_a1_cells s.heap.size n_t_source_cells t_source_size t_source_cells a1_size a1_most a1_draw a1_changes x2 x3 _ hf) (cwV 3 hts gX6_isCounted_X6_isTrue rfl rfl rfl (by decide +kernel) ⟨Nat.le_of_ble_eq_true rfl, Nat.le_of_ble_eq_true rfl⟩) ⟨gz_blind, va_recv hK hP (ci := 3) (q0 := 0) rfl rfl, gz_pre (gz_P_of hP (is := [0, 5, 6, 7]) (wc := [(h_t, .inr (3, [.ref h_t_source, .ref h_t_real, .ref h_t_dark])), (h_t_source, .inr (1, [.ref h_t_source_cells, .int t_source_size])), (h_t_source_cells, .inl (cI, n_t_source_cells, .inl t_source_cells)), (h_a1, .inr (6, [.ref h_a1_cells, .int a1_size, .int a1_most, .int a1_draw, .int a1_changes]))]) rfl) hK (hD.sub [0, 5, 6, 7] (by decide) rfl) gz_N0⟩ rfl rfl hl.1 rfl (lv_room (Nat.le_of_ble_eq_true rfl)) dX6_isCounted_54 ⟨Nat.le_refl _, Nat.le_refl _⟩) hP hD hS hA [0, 5, 6, 7] rfl (fun r3 H locs hf hP hS => ?_)
        exact ret _ _ _ _ r3 () hf.1 hf.2 hP hD hS dX6_isCounted_57
      · have hf := hf.2 hc11
        by_cases hc12 : x4 = (3 : Int32)
        · have hf := hf.1 hc12
          refine lv_tableIn (off := 56) (tgt := 58) hx hb dX6_isCounted_2 (by rw [hc12]; decide) (by rw [hc12]; decide) (by rw [hc12]; rfl) (by decide) ?_
          refine lv_aload_n hx hb dX6_isCounted_58 rfl (lv_at hl 0 rfl) ?_
          refine lv_iload_n hx hb dX6_isCounted_59 rfl (lv_at hl 3 rfl) ?_
          refine gz_iR (va_runV (As := [.int x3]) (rest := []) ⟨hx, hb, hml, hown, hts⟩ (c_X6_isGrey l dC dI cI cJ cC cZ h_t h_t_source h_t_real h_t_dark h_t_dark_cells h_t_real_cells s.heap.size n_t_dark_cells n_t_real_cells t_dark_size t_dark_cells t_real_size t_real_cells x3 _ hf) (cwV 1 hts gX6_isCounted_X6_isGrey rfl rfl rfl (by decide +kernel) ⟨Nat.le_of_ble_eq_true rfl, Nat.le_of_ble_eq_true rfl⟩) ⟨gz_blind, va_recv hK hP (ci := 3) (q0 := 0) rfl rfl, gz_pre (gz_P_of hP (is := [0, 1, 2, 3, 4]) (wc := [(h_t, .inr (3, [.ref h_t_source, .ref h_t_real, .ref h_t_dark])), (h_t_dark, .inr (1, [.ref h_t_dark_cells, .int t_dark_size])), (h_t_dark_cells, .inl (cI, n_t_dark_cells, .inl t_dark_cells)), (h_t_real, .inr (1, [.ref h_t_real_cells, .int t_real_size])), (h_t_real_cells, .inl (cI, n_t_real_cells, .inl t_real_cells))]) rfl) hK (hD.sub [0, 1, 2, 3, 4] (by decide) rfl) gz_N0⟩ rfl rfl hl.1 rfl (lv_room (Nat.le_of_ble_eq_true rfl)) dX6_isCounted_60 ⟨Nat.le_refl _, Nat.le_refl _⟩) hP hD hS hA [0, 1, 2, 3, 4] rfl (fun r4 H locs hf hP hS => ?_)
          exact ret _ _ _ _ r4 () hf.1 hf.2 hP hD hS dX6_isCounted_63
        · have hf := hf.2 hc12
          refine lv_tableOut (tgt := 64) hx hb dX6_isCounted_2 (gz_out4 hc9 hc10 hc11 hc12) (by decide) ?_
          refine lv_aload_n hx hb dX6_isCounted_64 rfl (lv_at hl 0 rfl) ?_
          refine lv_iload_n hx hb dX6_isCounted_65 rfl (lv_at hl 3 rfl) ?_
          refine gz_iR (va_runV (As := [.int x3]) (rest := []) ⟨hx, hb, hml, hown, hts⟩ (c_X6_isGrey l dC dI cI cJ cC cZ h_t h_t_source h_t_real h_t_dark h_t_dark_cells h_t_real_cells s.heap.size n_t_dark_cells n_t_real_cells t_dark_size t_dark_cells t_real_size t_real_cells x3 _ hf) (cwV 1 hts gX6_isCounted_X6_isGrey rfl rfl rfl (by decide +kernel) ⟨Nat.le_of_ble_eq_true rfl, Nat.le_of_ble_eq_true rfl⟩) ⟨gz_blind, va_recv hK hP (ci := 3) (q0 := 0) rfl rfl, gz_pre (gz_P_of hP (is := [0, 1, 2, 3, 4]) (wc := [(h_t, .inr (3, [.ref h_t_source, .ref h_t_real, .ref h_t_dark])), (h_t_dark, .inr (1, [.ref h_t_dark_cells, .int t_dark_size])), (h_t_dark_cells, .inl (cI, n_t_dark_cells, .inl t_dark_cells)), (h_t_real, .inr (1, [.ref h_t_real_cells, .int t_real_size])), (h_t_real_cells, .inl (cI, n_t_real_cells, .inl t_real_cells))]) rfl) hK (hD.sub [0, 1, 2, 3, 4] (by decide) rfl) gz_N0⟩ rfl rfl hl.1 rfl (lv_room (Nat.le_of_ble_eq_true rfl)) dX6_isCounted_66 ⟨Nat.le_refl _, Nat.le_refl _⟩) hP hD hS hA [0, 1, 2, 3, 4] rfl (fun r5 H locs hf hP hS => ?_)
          refine lv_if_eq (tgt := 86) hx hb dX6_isCounted_69 (by decide) (fun hc8 => ?_) (fun hc8 => ?_)
          · have hf := hf.1 hc8
            refine lv_iconst (v := (0 : Int32)) hx hb dX6_isCounted_86 (by decide) ?_
            exact ret _ _ _ _ (0 : Int32) () rfl hf hP hD hS dX6_isCounted_87
          · have hf := hf.2 hc8
            refine lv_aload_n hx hb dX6_isCounted_72 rfl (lv_at hl 0 rfl) ?_
            refine lv_aload_n hx hb dX6_isCounted_73 rfl (lv_at hl 1 rfl) ?_
            refine lv_iload_n hx hb dX6_isCounted_74 rfl (lv_at hl 2 rfl) ?_
            refine lv_iload_n hx hb dX6_isCounted_75 rfl (lv_at hl 3 rfl) ?_
            refine gz_iR (va_runV (As := [.ref h_a1, .int x2, .int x3]) (rest := []) ⟨hx, hb, hml, hown, hts⟩ (c_X6_isTrue l dC dI cI cJ cC cZ h_t h_t_source h_t_real h_t_dark h_t_source_cells h_a1 h_a1_cells H.size n_t_source_cells t_source_size t_source_cells a1_size a1_most a1_draw a1_changes x2 x3 _ hf) (cwV 3 hts gX6_isCounted_X6_isTrue rfl rfl rfl (by decide +kernel) ⟨Nat.le_of_ble_eq_true rfl, Nat.le_of_ble_eq_true rfl⟩) ⟨gz_blind, va_recv hK hP (ci := 3) (q0 := 0) rfl rfl, gz_pre (gz_P_of hP (is := [0, 5, 6, 7]) (wc := [(h_t, .inr (3, [.ref h_t_source, .ref h_t_real, .ref h_t_dark])), (h_t_source, .inr (1, [.ref h_t_source_cells, .int t_source_size])), (h_t_source_cells, .inl (cI, n_t_source_cells, .inl t_source_cells)), (h_a1, .inr (6, [.ref h_a1_cells, .int a1_size, .int a1_most, .int a1_draw, .int a1_changes]))]) rfl) hK (hD.sub [0, 5, 6, 7] (by decide) rfl) gz_N0⟩ rfl rfl hl.1 rfl (lv_room (Nat.le_of_ble_eq_true rfl)) dX6_isCounted_76 ⟨Nat.le_refl _, Nat.le_refl _⟩) hP hD hS hA [0, 5, 6, 7] rfl (fun r6 H locs hf hP hS => ?_)
            refine lv_if_eq (tgt := 86) hx hb dX6_isCounted_79 (by decide) (fun hc7 => ?_) (fun hc7 => ?_)
            · have hf := hf.1 hc7
              refine lv_iconst (v := (0 : Int32)) hx hb dX6_isCounted_86 (by decide) ?_
              exact ret _ _ _ _ (0 : Int32) () rfl hf hP hD hS dX6_isCounted_87
            · have hf := hf.2 hc7
              refine lv_iconst (v := (1 : Int32)) hx hb dX6_isCounted_82 (by decide) ?_
              refine lv_goto (tgt := 87) hx hb dX6_isCounted_83 (by decide) ?_
              exact ret _ _ _ _ (1 : Int32) () rfl hf hP hD hS dX6_isCounted_87
abbrev rm_X6_depth : Room := { frames := 5, cells := 0, slots := 0, locals := 125 }
set_option maxHeartbeats 4000000 in
set_option maxRecDepth 100000 in
theorem c_X6_depth (l : Launch) (dC : Nat → ClassId) (dI : Nat → Nat → Nat) (cI cJ cC cZ : ClassId) (h_t h_t_source h_t_real h_t_dark h_t_dark_cells h_t_real_cells h_t_source_cells h_a1 h_a1_cells : Nat) (sz : Nat) (n_t_dark_cells : Nat) (n_t_real_cells : Nat) (n_t_source_cells : Nat) (t_dark_size : Int32) (t_dark_cells : Nat → Int32) (t_real_size : Int32) (t_real_cells : Nat → Int32) (t_source_size : Int32) (t_source_cells : Nat → Int32) (a1_size : Int32) (a1_most : Int32) (a1_draw : Int32) (a1_changes : Int32) (a1_cells : Nat → Int32) (x2 : Int32) (x3 : Int32) (Q : Int32 → Int32 → (Nat → Int32) → Int32 → (Nat → Int32) → Int32 → (Nat → Int32) → Prop) (hw : p_X6_depth n_t_dark_cells n_t_real_cells n_t_source_cells t_dark_size t_dark_cells t_real_size t_real_cells t_source_size t_source_cells a1_size a1_most a1_cells x2 x3 Q) : Met l yX6_depth wsX6_depth rm_X6_depth (va_Pc [.ref h_t, .ref h_a1, .int x2, .int x3] (gz_B (dC, dI) (gz_T cI cJ cC cZ) [] sz [(h_t, .inr (3, [.ref h_t_source, .ref h_t_real, .ref h_t_dark])), (h_t_dark, .inr (1, [.ref h_t_dark_cells, .int t_dark_size])), (h_t_dark_cells, .inl (cI, n_t_dark_cells, .inl t_dark_cells)), (h_t_real, .inr (1, [.ref h_t_real_cells, .int t_real_size])), (h_t_real_cells, .inl (cI, n_t_real_cells, .inl t_real_cells)), (h_t_source, .inr (1, [.ref h_t_source_cells, .int t_source_size])), (h_t_source_cells, .inl (cI, n_t_source_cells, .inl t_source_cells)), (h_a1, .inr (6, [.ref h_a1_cells, .int a1_size, .int a1_most, .int a1_draw, .int a1_changes])), (h_a1_cells, .inl (cI, 48, .inl a1_cells))])) (va_Qi (fun (r : Int32) (u : Int32 × (Nat → Int32) × Int32 × (Nat → Int32) × Int32 × (Nat → Int32)) => Q r u.1 u.2.1 u.2.2.1 u.2.2.2.1 u.2.2.2.2.1 u.2.2.2.2.2) (fun u t => gz_E (dC, dI) (gz_T cI cJ cC cZ) (va_A [(h_t, .inr (3, [.ref h_t_source, .ref h_t_real, .ref h_t_dark])), (h_t_dark, .inr (1, [.ref h_t_dark_cells, .int t_dark_size])), (h_t_dark_cells, .inl (cI, n_t_dark_cells, .inl t_dark_cells)), (h_t_real, .inr (1, [.ref h_t_real_cells, .int t_real_size])), (h_t_real_cells, .inl (cI, n_t_real_cells, .inl t_real_cells)), (h_t_source, .inr (1, [.ref h_t_source_cells, .int t_source_size])), (h_t_source_cells, .inl (cI, n_t_source_cells, .inl t_source_cells)), (h_a1, .inr (6, [.ref h_a1_cells, .int a1_size, .int a1_most, .int a1_draw, .int a1_changes])), (h_a1_cells, .inl (cI, 48, .inl a1_cells))] sz) [(h_t, .inr (3, [.ref h_t_source, .ref h_t_real, .ref h_t_dark])), (h_t_dark, .inr (1, [.ref h_t_dark_cells, .int u.1])), (h_t_dark_cells, .inl (cI, n_t_dark_cells, .inl u.2.1)), (h_t_real, .inr (1, [.ref h_t_real_cells, .int u.2.2.1])), (h_t_real_cells, .inl (cI, n_t_real_cells, .inl u.2.2.2.1)), (h_t_source, .inr (1, [.ref h_t_source_cells, .int u.2.2.2.2.1])), (h_t_source_cells, .inl (cI, n_t_source_cells, .inl u.2.2.2.2.2)), (h_a1, .inr (6, [.ref h_a1_cells, .int a1_size, .int a1_most, .int a1_draw, .int a1_changes])), (h_a1_cells, .inl (cI, 48, .inl a1_cells))] t) (va_A [(h_t, .inr (3, [.ref h_t_source, .ref h_t_real, .ref h_t_dark])), (h_t_dark, .inr (1, [.ref h_t_dark_cells, .int t_dark_size])), (h_t_dark_cells, .inl (cI, n_t_dark_cells, .inl t_dark_cells)), (h_t_real, .inr (1, [.ref h_t_real_cells, .int t_real_size])), (h_t_real_cells, .inl (cI, n_t_real_cells, .inl t_real_cells)), (h_t_source, .inr (1, [.ref h_t_source_cells, .int t_source_size])), (h_t_source_cells, .inl (cI, n_t_source_cells, .inl t_source_cells)), (h_a1, .inr (6, [.ref h_a1_cells, .int a1_size, .int a1_most, .int a1_draw, .int a1_changes])), (h_a1_cells, .inl (cI, 48, .inl a1_cells))] sz)) 0 0 (va_A [(h_t, .inr (3, [.ref h_t_source, .ref h_t_real, .ref h_t_dark])), (h_t_dark, .inr (1, [.ref h_t_dark_cells, .int t_dark_size])), (h_t_dark_cells, .inl (cI, n_t_dark_cells, .inl t_dark_cells)), (h_t_real, .inr (1, [.ref h_t_real_cells, .int t_real_size])), (h_t_real_cells, .inl (cI, n_t_real_cells, .inl t_real_cells)), (h_t_source, .inr (1, [.ref h_t_source_cells, .int t_source_size])), (h_t_source_cells, .inl (cI, n_t_source_cells, .inl t_source_cells)), (h_a1, .inr (6, [.ref h_a1_cells, .int a1_size, .int a1_most, .int a1_draw, .int a1_changes])), (h_a1_cells, .inl (cI, 48, .inl a1_cells))] sz) := by
  refine gz_mi (cc := cX6_depth) (maxL := 6) (plainFor_of_name (by decide +kernel)) rfl (Nat.le_of_ble_eq_true rfl) ?_
  intro p e s m below meth c A QQ ls hx hb hml hown0 hts hK hN hA hP hD hS hl ret
  have hown : s.vm.findClass RX6 = some m.cls := hown0
  have hl : lv_has ls 6 [(0, .ref h_t), (1, .ref h_a1), (2, .int x2), (3, .int x3)] := hl
  have q0 := hts (.fieldLink RX6 20 "DarkShadows$Shade" "real" "LDarkShadows$Rows;") (List.mem_cons_of_mem _ (List.mem_append_left _ (List.mem_append_left _ (List.mem_append_left _ (List.mem_append_left _ (List.mem_of_getElem? (i := 0) rfl))))))
  have hinX6 : ∀ w ∈ wsX60, w ∈ wsX6_depth := fun w h => List.mem_cons_of_mem _ (List.mem_append_left _ (List.mem_append_left _ (List.mem_append_right _ h)))
  have q2 := hts (.fieldLink RX6 23 "DarkShadows$Shade" "dark" "LDarkShadows$Rows;") (List.mem_cons_of_mem _ (List.mem_append_left _ (List.mem_append_left _ (List.mem_append_left _ (List.mem_append_left _ (List.mem_of_getElem? (i := 1) rfl))))))
  have L32 : ∀ (t_dark_size : Int32) (t_dark_cells : Nat → Int32) (t_real_size : Int32) (t_real_cells : Nat → Int32) (t_source_size : Int32) (t_source_cells : Nat → Int32) (n : Nat) (x4 : Int32) (x5 : Int32) (H : Heap) (locs : List Loc) (ls : Array Slot), gi2 (p_X6_depth_32 n_t_dark_cells n_t_real_cells n_t_source_cells t_dark_size t_dark_cells t_real_size t_real_cells t_source_size t_source_cells a1_most x2 x3 Q) n x4 x5 → va_P (dC, dI) vwCl [(h_t, .inr (3, [.ref h_t_source, .ref h_t_real, .ref h_t_dark])), (h_t_dark, .inr (1, [.ref h_t_dark_cells, .int t_dark_size])), (h_t_dark_cells, .inl (cI, n_t_dark_cells, .inl t_dark_cells)), (h_t_real, .inr (1, [.ref h_t_real_cells, .int t_real_size])), (h_t_real_cells, .inl (cI, n_t_real_cells, .inl t_real_cells)), (h_t_source, .inr (1, [.ref h_t_source_cells, .int t_source_size])), (h_t_source_cells, .inl (cI, n_t_source_cells, .inl t_source_cells)), (h_a1, .inr (6, [.ref h_a1_cells, .int a1_size, .int a1_most, .int a1_draw, .int a1_changes])), (h_a1_cells, .inl (cI, 48, .inl a1_cells))] H → va_D A [(h_t, .inr (3, [.ref h_t_source, .ref h_t_real, .ref h_t_dark])), (h_t_dark, .inr (1, [.ref h_t_dark_cells, .int t_dark_size])), (h_t_dark_cells, .inl (cI, n_t_dark_cells, .inl t_dark_cells)), (h_t_real, .inr (1, [.ref h_t_real_cells, .int t_real_size])), (h_t_real_cells, .inl (cI, n_t_real_cells, .inl t_real_cells)), (h_t_source, .inr (1, [.ref h_t_source_cells, .int t_source_size])), (h_t_source_cells, .inl (cI, n_t_source_cells, .inl t_source_cells)), (h_a1, .inr (6, [.ref h_a1_cells, .int a1_size, .int a1_most, .int a1_draw, .int a1_changes])), (h_a1_cells, .inl (cI, 48, .inl a1_cells))] → va_S A s.heap H locs → lv_has ls 6 [(0, .ref h_t), (1, .ref h_a1), (2, .int x2), (3, .int x3), (4, .int x4), (5, .int x5)] → W p l e rm_X6_depth s m [.ref h_t, .ref h_a1, .int x2, .int x3].toArray below meth c H locs 0 0 QQ (F0 m 32 ls []) := by
    intro t_dark_size t_dark_cells t_real_size t_real_cells t_source_size t_source_cells n
    induction n with
    | zero => intro x4 x5 H locs ls hf; exact False.elim hf
    | succ n ih32 =>
      generalize hK32 : gi2 (p_X6_depth_32 n_t_dark_cells n_t_real_cells n_t_source_cells t_dark_size t_dark_cells t_real_size t_real_cells t_source_size t_source_cells a1_most x2 x3 Q) n = K32 at ih32
      have L80 : ∀ (x4 : Int32) (x5 : Int32) (H : Heap) (locs : List Loc) (ls : Array Slot), p_X6_depth_80 x4 x5 K32 → va_P (dC, dI) vwCl [(h_t, .inr (3, [.ref h_t_source, .ref h_t_real, .ref h_t_dark])), (h_t_dark, .inr (1, [.ref h_t_dark_cells, .int t_dark_size])), (h_t_dark_cells, .inl (cI, n_t_dark_cells, .inl t_dark_cells)), (h_t_real, .inr (1, [.ref h_t_real_cells, .int t_real_size])), (h_t_real_cells, .inl (cI, n_t_real_cells, .inl t_real_cells)), (h_t_source, .inr (1, [.ref h_t_source_cells, .int t_source_size])), (h_t_source_cells, .inl (cI, n_t_source_cells, .inl t_source_cells)), (h_a1, .inr (6, [.ref h_a1_cells, .int a1_size, .int a1_most, .int a1_draw, .int a1_changes])), (h_a1_cells, .inl (cI, 48, .inl a1_cells))] H → va_D A [(h_t, .inr (3, [.ref h_t_source, .ref h_t_real, .ref h_t_dark])), (h_t_dark, .inr (1, [.ref h_t_dark_cells, .int t_dark_size])), (h_t_dark_cells, .inl (cI, n_t_dark_cells, .inl t_dark_cells)), (h_t_real, .inr (1, [.ref h_t_real_cells, .int t_real_size])), (h_t_real_cells, .inl (cI, n_t_real_cells, .inl t_real_cells)), (h_t_source, .inr (1, [.ref h_t_source_cells, .int t_source_size])), (h_t_source_cells, .inl (cI, n_t_source_cells, .inl t_source_cells)), (h_a1, .inr (6, [.ref h_a1_cells, .int a1_size, .int a1_most, .int a1_draw, .int a1_changes])), (h_a1_cells, .inl (cI, 48, .inl a1_cells))] → va_S A s.heap H locs → lv_has ls 6 [(0, .ref h_t), (1, .ref h_a1), (2, .int x2), (3, .int x3), (4, .int x4), (5, .int x5)] → W p l e rm_X6_depth s m [.ref h_t, .ref h_a1, .int x2, .int x3].toArray below meth c H locs 0 0 QQ (F0 m 80 ls []) := by
        intro x4 x5 H locs ls hf hP hD hS hl
        refine lv_iinc (v := (x5 + (1 : Int32))) (lv' := [(5, .int (x5 + (1 : Int32))), (0, .ref h_t), (1, .ref h_a1), (2, .int x2), (3, .int x3), (4, .int x4)]) hx hb dX6_depth_80 hl (k := 5) rfl rfl (by decide) rfl (fun ls hl => ?_)
        refine lv_goto (tgt := 32) hx hb dX6_depth_83 (by decide) ?_
        exact ih32 x4 (x5 + (1 : Int32)) _ _ _ hf hP hD hS (lv_sub hl [1, 2, 3, 4, 5, 0] rfl)
      have L77 : ∀ (x5 : Int32) (s0 : Int32) (s1 : Int32) (H : Heap) (locs : List Loc) (ls : Array Slot), p_X6_depth_77 x5 s0 s1 K32 → va_P (dC, dI) vwCl [(h_t, .inr (3, [.ref h_t_source, .ref h_t_real, .ref h_t_dark])), (h_t_dark, .inr (1, [.ref h_t_dark_cells, .int t_dark_size])), (h_t_dark_cells, .inl (cI, n_t_dark_cells, .inl t_dark_cells)), (h_t_real, .inr (1, [.ref h_t_real_cells, .int t_real_size])), (h_t_real_cells, .inl (cI, n_t_real_cells, .inl t_real_cells)), (h_t_source, .inr (1, [.ref h_t_source_cells, .int t_source_size])), (h_t_source_cells, .inl (cI, n_t_source_cells, .inl t_source_cells)), (h_a1, .inr (6, [.ref h_a1_cells, .int a1_size, .int a1_most, .int a1_draw, .int a1_changes])), (h_a1_cells, .inl (cI, 48, .inl a1_cells))] H → va_D A [(h_t, .inr (3, [.ref h_t_source, .ref h_t_real, .ref h_t_dark])), (h_t_dark, .inr (1, [.ref h_t_dark_cells, .int t_dark_size])), (h_t_dark_cells, .inl (cI, n_t_dark_cells, .inl t_dark_cells)), (h_t_real, .inr (1, [.ref h_t_real_cells, .int t_real_size])), (h_t_real_cells, .inl (cI, n_t_real_cells, .inl t_real_cells)), (h_t_source, .inr (1, [.ref h_t_source_cells, .int t_source_size])), (h_t_source_cells, .inl (cI, n_t_source_cells, .inl t_source_cells)), (h_a1, .inr (6, [.ref h_a1_cells, .int a1_size, .int a1_most, .int a1_draw, .int a1_changes])), (h_a1_cells, .inl (cI, 48, .inl a1_cells))] → va_S A s.heap H locs → lv_has ls 6 [(0, .ref h_t), (1, .ref h_a1), (2, .int x2), (3, .int x3), (5, .int x5)] → W p l e rm_X6_depth s m [.ref h_t, .ref h_a1, .int x2, .int x3].toArray below meth c H locs 0 0 QQ (F0 m 77 ls [.int s1, .int s0]) := by
        intro x5 s0 s1 H locs ls hf hP hD hS hl
        refine lv_iadd hx hb dX6_depth_77 ?_
        refine lv_istore (lv' := [(4, .int (s0 + s1)), (0, .ref h_t), (1, .ref h_a1), (2, .int x2), (3, .int x3), (5, .int x5)]) hx hb dX6_depth_78 hl (by decide) rfl (fun ls hl => ?_)
        exact L80 (s0 + s1) x5 _ _ _ hf hP hD hS (lv_sub hl [1, 2, 3, 4, 0, 5] rfl)
      intro x4 x5 H locs ls hf hP hD hS hl
      have hf : p_X6_depth_32 n_t_dark_cells n_t_real_cells n_t_source_cells t_dark_size t_dark_cells t_real_size t_real_cells t_source_size t_source_cells a1_most x2 x3 Q (gi2 (p_X6_depth_32 n_t_dark_cells n_t_real_cells n_t_source_cells t_dark_size t_dark_cells t_real_size t_real_cells t_source_size t_source_cells a1_most x2 x3 Q) n) x4 x5 := hf
      rw [hK32] at hf
      refine lv_iload hx hb dX6_depth_32 (lv_at hl 5 rfl) ?_
      refine lv_sipush (v := (4095 : Int32)) hx hb dX6_depth_34 (by decide) ?_
      refine lv_icmp_gt (tgt := 86) hx hb dX6_depth_37 (by decide) (fun hc13 => ?_) (fun hc13 => ?_)
      · have hf := hf.1 hc13
        refine lv_iload hx hb dX6_depth_86 (lv_at hl 4 rfl) ?_
        exact ret _ _ _ _ x4 (t_dark_size, t_dark_cells, t_real_size, t_real_cells, t_source_size, t_source_cells) hf hP hD hS dX6_depth_88
      · have hf := hf.2 hc13
        refine lv_iload hx hb dX6_depth_40 (lv_at hl 5 rfl) ?_
        refine lv_iload_n hx hb dX6_depth_42 rfl (lv_at hl 2 rfl) ?_
        refine gz_i0 (va_runS (As := [.int x5, .int x2]) (rest := []) ⟨hx, hb, hml, hown, hts⟩ (c_X3_valueOf l dC dI cI cJ cC cZ H.size x5 x2 _ hf) (va_cwS 2 hts gX6_depth_X3_valueOf rfl rfl rfl (by decide +kernel) ⟨Nat.le_of_ble_eq_true rfl, Nat.le_of_ble_eq_true rfl⟩) ⟨gz_blind, gz_pre (gz_P_of hP (is := []) (wc := []) rfl) hK (hD.sub [] (by decide) rfl) gz_N0⟩ rfl rfl hl.1 rfl (lv_room (Nat.le_of_ble_eq_true rfl)) dX6_depth_43 ⟨Nat.le_refl _, Nat.le_refl _⟩) hP hD hS hA (fun r7 H locs hf hP hS => ?_)
        refine lv_if_ne (tgt := 80) hx hb dX6_depth_46 (by decide) (fun hc12 => ?_) (fun hc12 => ?_)
        · have hf := hf.2 hc12
          exact L80 x4 x5 _ _ _ hf hP hD hS hl
        · have hf := hf.1 hc12
          refine lv_aload_n hx hb dX6_depth_49 rfl (lv_at hl 1 rfl) ?_
          refine lv_iload hx hb dX6_depth_50 (lv_at hl 5 rfl) ?_
          refine gz_iR (va_runV (As := [.int x5]) (rest := []) ⟨hx, hb, hml, hown, hts⟩ (c_X9_isInBox l dC dI cI cJ cC cZ h_a1 h_a1_cells H.size a1_size a1_most a1_draw a1_changes x5 _ hf) (cwV 1 hts gX6_depth_X9_isInBox rfl rfl rfl (by decide +kernel) ⟨Nat.le_of_ble_eq_true rfl, Nat.le_of_ble_eq_true rfl⟩) ⟨gz_blind, va_recv hK hP (ci := 6) (q0 := 7) rfl rfl, gz_pre (gz_P_of hP (is := [7]) (wc := [(h_a1, .inr (6, [.ref h_a1_cells, .int a1_size, .int a1_most, .int a1_draw, .int a1_changes]))]) rfl) hK (hD.sub [7] (by decide) rfl) gz_N0⟩ rfl rfl hl.1 rfl (lv_room (Nat.le_of_ble_eq_true rfl)) dX6_depth_52 ⟨Nat.le_refl _, Nat.le_refl _⟩) hP hD hS hA [7] rfl (fun r8 H locs hf hP hS => ?_)
          refine lv_if_eq (tgt := 80) hx hb dX6_depth_55 (by decide) (fun hc11 => ?_) (fun hc11 => ?_)
          · have hf := hf.1 hc11
            exact L80 x4 x5 _ _ _ hf hP hD hS hl
          · have hf := hf.2 hc11
            refine lv_iload hx hb dX6_depth_58 (lv_at hl 4 rfl) ?_
            refine lv_aload_n hx hb dX6_depth_60 rfl (lv_at hl 0 rfl) ?_
            refine lv_aload_n hx hb dX6_depth_61 rfl (lv_at hl 1 rfl) ?_
            refine lv_iload_n hx hb dX6_depth_62 rfl (lv_at hl 2 rfl) ?_
            refine lv_iload hx hb dX6_depth_63 (lv_at hl 5 rfl) ?_
            refine lv_iload_n hx hb dX6_depth_65 rfl (lv_at hl 3 rfl) ?_
            refine gz_iR (va_runV (As := [.ref h_a1, .int x2, .int x5, .int x3]) (rest := [.int x4]) ⟨hx, hb, hml, hown, hts⟩ (c_X6_isCounted l dC dI cI cJ cC cZ h_t h_t_source h_t_real h_t_dark h_t_dark_cells h_t_real_cells h_t_source_cells h_a1 h_a1_cells H.size n_t_dark_cells n_t_real_cells n_t_source_cells t_dark_size t_dark_cells t_real_size t_real_cells t_source_size t_source_cells a1_size a1_most a1_draw a1_changes x2 x5 x3 _ hf) (cwV 4 hts gX6_depth_X6_isCounted rfl rfl rfl (by decide +kernel) ⟨Nat.le_of_ble_eq_true rfl, Nat.le_of_ble_eq_true rfl⟩) ⟨gz_blind, va_recv hK hP (ci := 3) (q0 := 0) rfl rfl, gz_pre (gz_P_of hP (is := [0, 1, 2, 3, 4, 5, 6, 7]) (wc := [(h_t, .inr (3, [.ref h_t_source, .ref h_t_real, .ref h_t_dark])), (h_t_dark, .inr (1, [.ref h_t_dark_cells, .int t_dark_size])), (h_t_dark_cells, .inl (cI, n_t_dark_cells, .inl t_dark_cells)), (h_t_real, .inr (1, [.ref h_t_real_cells, .int t_real_size])), (h_t_real_cells, .inl (cI, n_t_real_cells, .inl t_real_cells)), (h_t_source, .inr (1, [.ref h_t_source_cells, .int t_source_size])), (h_t_source_cells, .inl (cI, n_t_source_cells, .inl t_source_cells)), (h_a1, .inr (6, [.ref h_a1_cells, .int a1_size, .int a1_most, .int a1_draw, .int a1_changes]))]) rfl) hK (hD.sub [0, 1, 2, 3, 4, 5, 6, 7] (by decide) rfl) gz_N0⟩ rfl rfl hl.1 rfl (lv_room (Nat.le_of_ble_eq_true rfl)) dX6_depth_66 ⟨Nat.le_refl _, Nat.le_refl _⟩) hP hD hS hA [0, 1, 2, 3, 4, 5, 6, 7] rfl (fun r9 H locs hf hP hS => ?_)
            refine lv_if_eq (tgt := 76) hx hb dX6_depth_69 (by decide) (fun hc10 => ?_) (fun hc10 => ?_)
            · have hf := hf.1 hc10
              refine lv_iconst (v := (0 : Int32)) hx hb dX6_depth_76 (by decide) ?_
              exact L77 x5 x4 (0 : Int32) _ _ _ hf hP hD hS (lv_sub hl [0, 1, 2, 3, 5] rfl)
            · have hf := hf.2 hc10
              refine lv_iconst (v := (1 : Int32)) hx hb dX6_depth_72 (by decide) ?_
              refine lv_goto (tgt := 77) hx hb dX6_depth_73 (by decide) ?_
              exact L77 x5 x4 (1 : Int32) _ _ _ hf hP hD hS (lv_sub hl [0, 1, 2, 3, 5] rfl)
  have hf := hw
  refine lv_aload_n hx hb dX6_depth_0 rfl (lv_at hl 0 rfl) ?_
  refine lv_aload_n hx hb dX6_depth_1 rfl (lv_at hl 1 rfl) ?_
  refine lv_iload_n hx hb dX6_depth_2 rfl (lv_at hl 2 rfl) ?_
  refine gz_v (W1 := (fun u : Int32 × (Nat → Int32) => [(h_t, .inr (3, [.ref h_t_source, .ref h_t_real, .ref h_t_dark])), (h_t_source, .inr (1, [.ref h_t_source_cells, .int u.1])), (h_t_source_cells, .inl (cI, n_t_source_cells, .inl u.2)), (h_a1, .inr (6, [.ref h_a1_cells, .int a1_size, .int a1_most, .int a1_draw, .int a1_changes])), (h_a1_cells, .inl (cI, 48, .inl a1_cells))])) (wn := (fun u : Int32 × (Nat → Int32) => [(h_t, .inr (3, [.ref h_t_source, .ref h_t_real, .ref h_t_dark])), (h_t_dark, .inr (1, [.ref h_t_dark_cells, .int t_dark_size])), (h_t_dark_cells, .inl (cI, n_t_dark_cells, .inl t_dark_cells)), (h_t_real, .inr (1, [.ref h_t_real_cells, .int t_real_size])), (h_t_real_cells, .inl (cI, n_t_real_cells, .inl t_real_cells)), (h_t_source, .inr (1, [.ref h_t_source_cells, .int u.1])), (h_t_source_cells, .inl (cI, n_t_source_cells, .inl u.2)), (h_a1, .inr (6, [.ref h_a1_cells, .int a1_size, .int a1_most, .int a1_draw, .int a1_changes])), (h_a1_cells, .inl (cI, 48, .inl a1_cells))])) (wr := [(h_t_dark, .inr (1, [.ref h_t_dark_cells, .int t_dark_size])), (h_t_dark_cells, .inl (cI, n_t_dark_cells, .inl t_dark_cells)), (h_t_real, .inr (1, [.ref h_t_real_cells, .int t_real_size])), (h_t_real_cells, .inl (cI, n_t_real_cells, .inl t_real_cells))]) (va_runV (As := [.ref h_a1, .int x2]) (rest := []) ⟨hx, hb, hml, hown, hts⟩ (c_X6_gatherRows l dC dI cI cJ cC cZ h_t h_t_source h_t_real h_t_dark h_t_source_cells h_a1 h_a1_cells s.heap.size n_t_source_cells t_source_size t_source_cells a1_size a1_most a1_draw a1_changes a1_cells x2 _ hf) (cwV 2 hts gX6_depth_X6_gatherRows rfl rfl rfl (by decide +kernel) ⟨Nat.le_of_ble_eq_true rfl, Nat.le_of_ble_eq_true rfl⟩) ⟨gz_blind, va_recv hK hP (ci := 3) (q0 := 0) rfl rfl, gz_pre (gz_P_of hP (is := [0, 5, 6, 7, 8]) (wc := [(h_t, .inr (3, [.ref h_t_source, .ref h_t_real, .ref h_t_dark])), (h_t_source, .inr (1, [.ref h_t_source_cells, .int t_source_size])), (h_t_source_cells, .inl (cI, n_t_source_cells, .inl t_source_cells)), (h_a1, .inr (6, [.ref h_a1_cells, .int a1_size, .int a1_most, .int a1_draw, .int a1_changes])), (h_a1_cells, .inl (cI, 48, .inl a1_cells))]) rfl) hK (hD.sub [0, 5, 6, 7, 8] (by decide) rfl) gz_N0⟩ rfl rfl hl.1 rfl (lv_room (Nat.le_of_ble_eq_true rfl)) dX6_depth_3 ⟨Nat.le_refl _, Nat.le_refl _⟩) hP hD hS hA [0, 5, 6, 7, 8] [1, 2, 3, 4] [4, 0, 1, 2, 3, 5, 6, 7, 8] rfl rfl (by decide) (by decide) (fun _ => rfl) (by decide) (fun  u H locs hf hP hD hS => ?_)
  obtain ⟨y1, y2⟩ := u
  have hP : va_P (dC, dI) vwCl [(h_t, .inr (3, [.ref h_t_source, .ref h_t_real, .ref h_t_dark])), (h_t_dark, .inr (1, [.ref h_t_dark_cells, .int t_dark_size])), (h_t_dark_cells, .inl (cI, n_t_dark_cells, .inl t_dark_cells)), (h_t_real, .inr (1, [.ref h_t_real_cells, .int t_real_size])), (h_t_real_cells, .inl (cI, n_t_real_cells, .inl t_real_cells)), (h_t_source, .inr (1, [.ref h_t_source_cells, .int y1])), (h_t_source_cells, .inl (cI, n_t_source_cells, .inl y2)), (h_a1, .inr (6, [.ref h_a1_cells, .int a1_size, .int a1_most, .int a1_draw, .int a1_changes])), (h_a1_cells, .inl (cI, 48, .inl a1_cells))] H := hP
  have hD : va_D A [(h_t, .inr (3, [.ref h_t_source, .ref h_t_real, .ref h_t_dark])), (h_t_dark, .inr (1, [.ref h_t_dark_cells, .int t_dark_size])), (h_t_dark_cells, .inl (cI, n_t_dark_cells, .inl t_dark_cells)), (h_t_real, .inr (1, [.ref h_t_real_cells, .int t_real_size])), (h_t_real_cells, .inl (cI, n_t_real_cells, .inl t_real_cells)), (h_t_source, .inr (1, [.ref h_t_source_cells, .int y1])), (h_t_source_cells, .inl (cI, n_t_source_cells, .inl y2)), (h_a1, .inr (6, [.ref h_a1_cells, .int a1_size, .int a1_most, .int a1_draw, .int a1_changes])), (h_a1_cells, .inl (cI, 48, .inl a1_cells))] := hD
  refine lv_aload_n hx hb dX6_depth_6 rfl (lv_at hl 0 rfl) ?_
  refine lv_aload_n hx hb dX6_depth_7 rfl (lv_at hl 0 rfl) ?_
  refine va_get (D := (dC, dI)) (ci := 3) (v := .ref h_t_real) (C := RX6) (T := TX6) (N := 3) hx hb hts hinX6 hown hK hP 0 rfl rfl 1 (by decide) q0 (fun _ h9 => h9) rfl dX6_depth_8 ?_
  refine lv_iload_n hx hb dX6_depth_11 rfl (lv_at hl 2 rfl) ?_
  refine lv_iconst (v := (0 : Int32)) hx hb dX6_depth_12 (by decide) ?_
  refine gz_v (W1 := (fun u : Int32 × (Nat → Int32) => [(h_t, .inr (3, [.ref h_t_source, .ref h_t_real, .ref h_t_dark])), (h_t_source, .inr (1, [.ref h_t_source_cells, .int y1])), (h_t_source_cells, .inl (cI, n_t_source_cells, .inl y2)), (h_t_real, .inr (1, [.ref h_t_real_cells, .int u.1])), (h_t_real_cells, .inl (cI, n_t_real_cells, .inl u.2))])) (wn := (fun u : Int32 × (Nat → Int32) => [(h_t, .inr (3, [.ref h_t_source, .ref h_t_real, .ref h_t_dark])), (h_t_dark, .inr (1, [.ref h_t_dark_cells, .int t_dark_size])), (h_t_dark_cells, .inl (cI, n_t_dark_cells, .inl t_dark_cells)), (h_t_real, .inr (1, [.ref h_t_real_cells, .int u.1])), (h_t_real_cells, .inl (cI, n_t_real_cells, .inl u.2)), (h_t_source, .inr (1, [.ref h_t_source_cells, .int y1])), (h_t_source_cells, .inl (cI, n_t_source_cells, .inl y2)), (h_a1, .inr (6, [.ref h_a1_cells, .int a1_size, .int a1_most, .int a1_draw, .int a1_changes])), (h_a1_cells, .inl (cI, 48, .inl a1_cells))])) (wr := [(h_t_dark, .inr (1, [.ref h_t_dark_cells, .int t_dark_size])), (h_t_dark_cells, .inl (cI, n_t_dark_cells, .inl t_dark_cells)), (h_a1, .inr (6, [.ref h_a1_cells, .int a1_size, .int a1_most, .int a1_draw, .int a1_changes])), (h_a1_cells, .inl (cI, 48, .inl a1_cells))]) (va_runV (As := [.ref h_t_real, .int x2, .int (0 : Int32)]) (rest := []) ⟨hx, hb, hml, hown, hts⟩ (c_X6_castShadow l dC dI cI cJ cC cZ h_t h_t_source h_t_real h_t_dark h_t_source_cells h_t_real h_t_real_cells H.size n_t_source_cells n_t_real_cells y1 y2 t_real_size t_real_cells x2 (0 : Int32) _ hf) (cwV 3 hts gX6_depth_X6_castShadow rfl rfl rfl (by decide +kernel) ⟨Nat.le_of_ble_eq_true rfl, Nat.le_of_ble_eq_true rfl⟩) ⟨gz_blind, va_recv hK hP (ci := 3) (q0 := 0) rfl rfl, gz_pre (gz_P_of hP (is := [0, 5, 6, 3, 4]) (wc := [(h_t, .inr (3, [.ref h_t_source, .ref h_t_real, .ref h_t_dark])), (h_t_source, .inr (1, [.ref h_t_source_cells, .int y1])), (h_t_source_cells, .inl (cI, n_t_source_cells, .inl y2)), (h_t_real, .inr (1, [.ref h_t_real_cells, .int t_real_size])), (h_t_real_cells, .inl (cI, n_t_real_cells, .inl t_real_cells))]) rfl) hK (hD.sub [0, 5, 6, 3, 4] (by decide) rfl) gz_N0⟩ rfl rfl hl.1 rfl (lv_room (Nat.le_of_ble_eq_true rfl)) dX6_depth_13 ⟨Nat.le_refl _, Nat.le_refl _⟩) hP hD hS hA [0, 5, 6, 3, 4] [1, 2, 7, 8] [4, 0, 1, 7, 8, 5, 6, 2, 3] rfl rfl (by decide) (by decide) (fun _ => rfl) (by decide) (fun  u H locs hf hP hD hS => ?_)
  obtain ⟨y3, y4⟩ := u
  have hP : va_P (dC, dI) vwCl [(h_t, .inr (3, [.ref h_t_source, .ref h_t_real, .ref h_t_dark])), (h_t_dark, .inr (1, [.ref h_t_dark_cells, .int t_dark_size])), (h_t_dark_cells, .inl (cI, n_t_dark_cells, .inl t_dark_cells)), (h_t_real, .inr (1, [.ref h_t_real_cells, .int y3])), (h_t_real_cells, .inl (cI, n_t_real_cells, .inl y4)), (h_t_source, .inr (1, [.ref h_t_source_cells, .int y1])), (h_t_source_cells, .inl (cI, n_t_source_cells, .inl y2)), (h_a1, .inr (6, [.ref h_a1_cells, .int a1_size, .int a1_most, .int a1_draw, .int a1_changes])), (h_a1_cells, .inl (cI, 48, .inl a1_cells))] H := hP
  have hD : va_D A [(h_t, .inr (3, [.ref h_t_source, .ref h_t_real, .ref h_t_dark])), (h_t_dark, .inr (1, [.ref h_t_dark_cells, .int t_dark_size])), (h_t_dark_cells, .inl (cI, n_t_dark_cells, .inl t_dark_cells)), (h_t_real, .inr (1, [.ref h_t_real_cells, .int y3])), (h_t_real_cells, .inl (cI, n_t_real_cells, .inl y4)), (h_t_source, .inr (1, [.ref h_t_source_cells, .int y1])), (h_t_source_cells, .inl (cI, n_t_source_cells, .inl y2)), (h_a1, .inr (6, [.ref h_a1_cells, .int a1_size, .int a1_most, .int a1_draw, .int a1_changes])), (h_a1_cells, .inl (cI, 48, .inl a1_cells))] := hD
  refine lv_aload_n hx hb dX6_depth_16 rfl (lv_at hl 0 rfl) ?_
  refine lv_aload_n hx hb dX6_depth_17 rfl (lv_at hl 0 rfl) ?_
  refine va_get (D := (dC, dI)) (ci := 3) (v := .ref h_t_dark) (C := RX6) (T := TX6) (N := 3) hx hb hts hinX6 hown hK hP 0 rfl rfl 2 (by decide) q2 (fun _ h9 => h9) rfl dX6_depth_18 ?_
  refine lv_iload_n hx hb dX6_depth_21 rfl (lv_at hl 2 rfl) ?_
  refine lv_iconst (v := (1 : Int32)) hx hb dX6_depth_22 (by decide) ?_
  refine gz_v (W1 := (fun u : Int32 × (Nat → Int32) => [(h_t, .inr (3, [.ref h_t_source, .ref h_t_real, .ref h_t_dark])), (h_t_source, .inr (1, [.ref h_t_source_cells, .int y1])), (h_t_source_cells, .inl (cI, n_t_source_cells, .inl y2)), (h_t_dark, .inr (1, [.ref h_t_dark_cells, .int u.1])), (h_t_dark_cells, .inl (cI, n_t_dark_cells, .inl u.2))])) (wn := (fun u : Int32 × (Nat → Int32) => [(h_t, .inr (3, [.ref h_t_source, .ref h_t_real, .ref h_t_dark])), (h_t_dark, .inr (1, [.ref h_t_dark_cells, .int u.1])), (h_t_dark_cells, .inl (cI, n_t_dark_cells, .inl u.2)), (h_t_real, .inr (1, [.ref h_t_real_cells, .int y3])), (h_t_real_cells, .inl (cI, n_t_real_cells, .inl y4)), (h_t_source, .inr (1, [.ref h_t_source_cells, .int y1])), (h_t_source_cells, .inl (cI, n_t_source_cells, .inl y2)), (h_a1, .inr (6, [.ref h_a1_cells, .int a1_size, .int a1_most, .int a1_draw, .int a1_changes])), (h_a1_cells, .inl (cI, 48, .inl a1_cells))])) (wr := [(h_t_real, .inr (1, [.ref h_t_real_cells, .int y3])), (h_t_real_cells, .inl (cI, n_t_real_cells, .inl y4)), (h_a1, .inr (6, [.ref h_a1_cells, .int a1_size, .int a1_most, .int a1_draw, .int a1_changes])), (h_a1_cells, .inl (cI, 48, .inl a1_cells))]) (va_runV (As := [.ref h_t_dark, .int x2, .int (1 : Int32)]) (rest := []) ⟨hx, hb, hml, hown, hts⟩ (c_X6_castShadow l dC dI cI cJ cC cZ h_t h_t_source h_t_real h_t_dark h_t_source_cells h_t_dark h_t_dark_cells H.size n_t_source_cells n_t_dark_cells y1 y2 t_dark_size t_dark_cells x2 (1 : Int32) _ hf) (cwV 3 hts gX6_depth_X6_castShadow rfl rfl rfl (by decide +kernel) ⟨Nat.le_of_ble_eq_true rfl, Nat.le_of_ble_eq_true rfl⟩) ⟨gz_blind, va_recv hK hP (ci := 3) (q0 := 0) rfl rfl, gz_pre (gz_P_of hP (is := [0, 5, 6, 1, 2]) (wc := [(h_t, .inr (3, [.ref h_t_source, .ref h_t_real, .ref h_t_dark])), (h_t_source, .inr (1, [.ref h_t_source_cells, .int y1])), (h_t_source_cells, .inl (cI, n_t_source_cells, .inl y2)), (h_t_dark, .inr (1, [.ref h_t_dark_cells, .int t_dark_size])), (h_t_dark_cells, .inl (cI, n_t_dark_cells, .inl t_dark_cells))]) rfl) hK (hD.sub [0, 5, 6, 1, 2] (by decide) rfl) gz_N0⟩ rfl rfl hl.1 rfl (lv_room (Nat.le_of_ble_eq_true rfl)) dX6_depth_23 ⟨Nat.le_refl _, Nat.le_refl _⟩) hP hD hS hA [0, 5, 6, 1, 2] [3, 4, 7, 8] [4, 7, 8, 0, 1, 5, 6, 2, 3] rfl rfl (by decide) (by decide) (fun _ => rfl) (by decide) (fun  u H locs hf hP hD hS => ?_)
  obtain ⟨y5, y6⟩ := u
  have hP : va_P (dC, dI) vwCl [(h_t, .inr (3, [.ref h_t_source, .ref h_t_real, .ref h_t_dark])), (h_t_dark, .inr (1, [.ref h_t_dark_cells, .int y5])), (h_t_dark_cells, .inl (cI, n_t_dark_cells, .inl y6)), (h_t_real, .inr (1, [.ref h_t_real_cells, .int y3])), (h_t_real_cells, .inl (cI, n_t_real_cells, .inl y4)), (h_t_source, .inr (1, [.ref h_t_source_cells, .int y1])), (h_t_source_cells, .inl (cI, n_t_source_cells, .inl y2)), (h_a1, .inr (6, [.ref h_a1_cells, .int a1_size, .int a1_most, .int a1_draw, .int a1_changes])), (h_a1_cells, .inl (cI, 48, .inl a1_cells))] H := hP
  have hD : va_D A [(h_t, .inr (3, [.ref h_t_source, .ref h_t_real, .ref h_t_dark])), (h_t_dark, .inr (1, [.ref h_t_dark_cells, .int y5])), (h_t_dark_cells, .inl (cI, n_t_dark_cells, .inl y6)), (h_t_real, .inr (1, [.ref h_t_real_cells, .int y3])), (h_t_real_cells, .inl (cI, n_t_real_cells, .inl y4)), (h_t_source, .inr (1, [.ref h_t_source_cells, .int y1])), (h_t_source_cells, .inl (cI, n_t_source_cells, .inl y2)), (h_a1, .inr (6, [.ref h_a1_cells, .int a1_size, .int a1_most, .int a1_draw, .int a1_changes])), (h_a1_cells, .inl (cI, 48, .inl a1_cells))] := hD
  refine lv_iconst (v := (0 : Int32)) hx hb dX6_depth_26 (by decide) ?_
  refine lv_istore (lv' := [(4, .int (0 : Int32)), (0, .ref h_t), (1, .ref h_a1), (2, .int x2), (3, .int x3)]) hx hb dX6_depth_27 hl (by decide) rfl (fun ls hl => ?_)
  refine lv_iconst (v := (0 : Int32)) hx hb dX6_depth_29 (by decide) ?_
  refine lv_istore (lv' := [(5, .int (0 : Int32)), (4, .int (0 : Int32)), (0, .ref h_t), (1, .ref h_a1), (2, .int x2), (3, .int x3)]) hx hb dX6_depth_30 hl (by decide) rfl (fun ls hl => ?_)
  obtain ⟨n, hf⟩ := hf
  exact L32 y5 y6 y3 y4 y1 y2 n (0 : Int32) (0 : Int32) _ _ _ hf hP hD hS (lv_sub hl [2, 3, 4, 5, 1, 0] rfl)
abbrev rm_X7_holdsNothing : Room := { frames := 0, cells := 0, slots := 0, locals := 0 }
set_option maxHeartbeats 4000000 in
set_option maxRecDepth 100000 in
theorem c_X7_holdsNothing (l : Launch) (dC : Nat → ClassId) (dI : Nat → Nat → Nat) (cI cJ cC cZ : ClassId) (h_t h_t_items h_t_lanes h_t_sizes : Nat) (sz : Nat) (t_lanes : Nat → Int32) (x1 : Int32) (Q : Int32 → Prop) (hw : p_X7_holdsNothing t_lanes x1 Q) : Met l yX7_holdsNothing wsX7_holdsNothing rm_X7_holdsNothing (va_Pc [.ref h_t, .int x1] (gz_B (dC, dI) (gz_T cI cJ cC cZ) [] sz [(h_t, .inr (4, [.ref h_t_items, .ref h_t_lanes, .ref h_t_sizes])), (h_t_lanes, .inl (cI, 4, .inl t_lanes))])) (va_Qi (fun (r : Int32) (u : Unit) => Q r) (fun u t => gz_E (dC, dI) (gz_T cI cJ cC cZ) (va_A [(h_t, .inr (4, [.ref h_t_items, .ref h_t_lanes, .ref h_t_sizes])), (h_t_lanes, .inl (cI, 4, .inl t_lanes))] sz) [(h_t, .inr (4, [.ref h_t_items, .ref h_t_lanes, .ref h_t_sizes])), (h_t_lanes, .inl (cI, 4, .inl t_lanes))] t) (va_A [(h_t, .inr (4, [.ref h_t_items, .ref h_t_lanes, .ref h_t_sizes])), (h_t_lanes, .inl (cI, 4, .inl t_lanes))] sz)) 0 0 (va_A [(h_t, .inr (4, [.ref h_t_items, .ref h_t_lanes, .ref h_t_sizes])), (h_t_lanes, .inl (cI, 4, .inl t_lanes))] sz) := by
  refine gz_mz (cc := cX7_holdsNothing) (maxL := 2) (plainFor_of_name (by decide +kernel)) rfl (Nat.le_of_ble_eq_true rfl) ?_
  intro p e s m below meth c A QQ ls hx hb hml hown0 hts hK hN hA hP hD hS hl ret
  have hown : s.vm.findClass RX7 = some m.cls := hown0
  have hl : lv_has ls 2 [(0, .ref h_t), (1, .int x1)] := hl
  have q0 := hts (.fieldLink RX7 15 "DarkShadows$Sheets" "lanes" "[I") (List.mem_cons_of_mem _ (List.mem_append_left _ (List.mem_of_getElem? (i := 0) rfl)))
  have hinX7 : ∀ w ∈ wsX70, w ∈ wsX7_holdsNothing := fun w h => List.mem_cons_of_mem _ (List.mem_append_right _ h)
  have hf := hw
  refine lv_aload_n hx hb dX7_holdsNothing_0 rfl (lv_at hl 0 rfl) ?_
  refine va_get (D := (dC, dI)) (ci := 4) (v := .ref h_t_lanes) (C := RX7) (T := TX7) (N := 3) hx hb hts hinX7 hown hK hP 0 rfl rfl 1 (by decide) q0 (fun _ h9 => h9) rfl dX7_holdsNothing_1 ?_
  refine lv_iload_n hx hb dX7_holdsNothing_4 rfl (lv_at hl 1 rfl) ?_
  obtain ⟨hb1, hf⟩ := hf
  refine va_iald hx hb hK hP 1 0 rfl rfl hb1 dX7_holdsNothing_5 ?_
  refine lv_iconst (v := (-1 : Int32)) hx hb dX7_holdsNothing_6 (by decide) ?_
  refine lv_icmp_ne (tgt := 14) hx hb dX7_holdsNothing_7 (by decide) (fun hc2 => ?_) (fun hc2 => ?_)
  · have hf := hf.2 hc2
    refine lv_iconst (v := (0 : Int32)) hx hb dX7_holdsNothing_14 (by decide) ?_
    exact ret _ _ _ _ (0 : Int32) () rfl hf hP hD hS dX7_holdsNothing_15
  · have hf := hf.1 hc2
    refine lv_iconst (v := (1 : Int32)) hx hb dX7_holdsNothing_10 (by decide) ?_
    refine lv_goto (tgt := 15) hx hb dX7_holdsNothing_11 (by decide) ?_
    exact ret _ _ _ _ (1 : Int32) () rfl hf hP hD hS dX7_holdsNothing_15
abbrev rm_X7_isBeyond : Room := { frames := 0, cells := 0, slots := 0, locals := 0 }
set_option maxHeartbeats 4000000 in
set_option maxRecDepth 100000 in
theorem c_X7_isBeyond (l : Launch) (dC : Nat → ClassId) (dI : Nat → Nat → Nat) (cI cJ cC cZ : ClassId) (h_t h_t_items h_t_lanes h_t_sizes : Nat) (sz : Nat) (t_sizes : Nat → Int32) (x1 : Int32) (x2 : Int32) (x3 : Int32) (Q : Int32 → Prop) (hw : p_X7_isBeyond t_sizes x1 x2 x3 Q) : Met l yX7_isBeyond wsX7_isBeyond rm_X7_isBeyond (va_Pc [.ref h_t, .int x1, .int x2, .int x3] (gz_B (dC, dI) (gz_T cI cJ cC cZ) [] sz [(h_t, .inr (4, [.ref h_t_items, .ref h_t_lanes, .ref h_t_sizes])), (h_t_sizes, .inl (cI, 4, .inl t_sizes))])) (va_Qi (fun (r : Int32) (u : Unit) => Q r) (fun u t => gz_E (dC, dI) (gz_T cI cJ cC cZ) (va_A [(h_t, .inr (4, [.ref h_t_items, .ref h_t_lanes, .ref h_t_sizes])), (h_t_sizes, .inl (cI, 4, .inl t_sizes))] sz) [(h_t, .inr (4, [.ref h_t_items, .ref h_t_lanes, .ref h_t_sizes])), (h_t_sizes, .inl (cI, 4, .inl t_sizes))] t) (va_A [(h_t, .inr (4, [.ref h_t_items, .ref h_t_lanes, .ref h_t_sizes])), (h_t_sizes, .inl (cI, 4, .inl t_sizes))] sz)) 0 0 (va_A [(h_t, .inr (4, [.ref h_t_items, .ref h_t_lanes, .ref h_t_sizes])), (h_t_sizes, .inl (cI, 4, .inl t_sizes))] sz) := by
  refine gz_mz (cc := cX7_isBeyond) (maxL := 4) (plainFor_of_name (by decide +kernel)) rfl (Nat.le_of_ble_eq_true rfl) ?_
  intro p e s m below meth c A QQ ls hx hb hml hown0 hts hK hN hA hP hD hS hl ret
  have hown : s.vm.findClass RX7 = some m.cls := hown0
  have hl : lv_has ls 4 [(0, .ref h_t), (1, .int x1), (2, .int x2), (3, .int x3)] := hl
  have q0 := hts (.fieldLink RX7 19 "DarkShadows$Sheets" "sizes" "[I") (List.mem_cons_of_mem _ (List.mem_append_left _ (List.mem_of_getElem? (i := 0) rfl)))
  have hinX7 : ∀ w ∈ wsX70, w ∈ wsX7_isBeyond := fun w h => List.mem_cons_of_mem _ (List.mem_append_right _ h)
  have hf := hw
  refine lv_iload_n hx hb dX7_isBeyond_0 rfl (lv_at hl 2 rfl) ?_
  refine lv_if_lt (tgt := 20) hx hb dX7_isBeyond_1 (by decide) (fun hc4 => ?_) (fun hc4 => ?_)
  · have hf := hf.1 hc4
    refine lv_iconst (v := (1 : Int32)) hx hb dX7_isBeyond_20 (by decide) ?_
    refine lv_goto (tgt := 25) hx hb dX7_isBeyond_21 (by decide) ?_
    exact ret _ _ _ _ (1 : Int32) () rfl hf hP hD hS dX7_isBeyond_25
  · have hf := hf.2 hc4
    refine lv_iload_n hx hb dX7_isBeyond_4 rfl (lv_at hl 3 rfl) ?_
    refine lv_if_lt (tgt := 20) hx hb dX7_isBeyond_5 (by decide) (fun hc3 => ?_) (fun hc3 => ?_)
    · have hf := hf.1 hc3
      refine lv_iconst (v := (1 : Int32)) hx hb dX7_isBeyond_20 (by decide) ?_
      refine lv_goto (tgt := 25) hx hb dX7_isBeyond_21 (by decide) ?_
      exact ret _ _ _ _ (1 : Int32) () rfl hf hP hD hS dX7_isBeyond_25
    · have hf := hf.2 hc3
      refine lv_iload_n hx hb dX7_isBeyond_8 rfl (lv_at hl 2 rfl) ?_
      refine lv_aload_n hx hb dX7_isBeyond_9 rfl (lv_at hl 0 rfl) ?_
      refine va_get (D := (dC, dI)) (ci := 4) (v := .ref h_t_sizes) (C := RX7) (T := TX7) (N := 3) hx hb hts hinX7 hown hK hP 0 rfl rfl 2 (by decide) q0 (fun _ h9 => h9) rfl dX7_isBeyond_10 ?_
      refine lv_iload_n hx hb dX7_isBeyond_13 rfl (lv_at hl 1 rfl) ?_
      obtain ⟨hb1, hf⟩ := hf
      refine va_iald hx hb hK hP 1 0 rfl rfl hb1 dX7_isBeyond_14 ?_
      refine lv_iload_n hx hb dX7_isBeyond_15 rfl (lv_at hl 3 rfl) ?_
      refine lv_isub hx hb dX7_isBeyond_16 ?_
      refine lv_icmp_le (tgt := 24) hx hb dX7_isBeyond_17 (by decide) (fun hc2 => ?_) (fun hc2 => ?_)
      · have hf := hf.1 hc2
        refine lv_iconst (v := (0 : Int32)) hx hb dX7_isBeyond_24 (by decide) ?_
        exact ret _ _ _ _ (0 : Int32) () rfl hf hP hD hS dX7_isBeyond_25
      · have hf := hf.2 hc2
        refine lv_iconst (v := (1 : Int32)) hx hb dX7_isBeyond_20 (by decide) ?_
        refine lv_goto (tgt := 25) hx hb dX7_isBeyond_21 (by decide) ?_
        exact ret _ _ _ _ (1 : Int32) () rfl hf hP hD hS dX7_isBeyond_25
abbrev rm_X7_refusal : Room := { frames := 1, cells := 0, slots := 0, locals := 23 }
set_option maxHeartbeats 4000000 in
set_option maxRecDepth 100000 in
theorem c_X7_refusal (l : Launch) (dC : Nat → ClassId) (dI : Nat → Nat → Nat) (cI cJ cC cZ : ClassId) (h_t h_t_items h_t_lanes h_t_sizes : Nat) (sz : Nat) (t_lanes : Nat → Int32) (t_sizes : Nat → Int32) (x1 : Int32) (x2 : Int32) (x3 : Int32) (x4 : Int32) (Q : Int32 → Prop) (hw : p_X7_refusal t_lanes t_sizes x1 x2 x3 x4 Q) : Met l yX7_refusal wsX7_refusal rm_X7_refusal (va_Pc [.ref h_t, .int x1, .int x2, .int x3, .int x4] (gz_B (dC, dI) (gz_T cI cJ cC cZ) [] sz [(h_t, .inr (4, [.ref h_t_items, .ref h_t_lanes, .ref h_t_sizes])), (h_t_lanes, .inl (cI, 4, .inl t_lanes)), (h_t_sizes, .inl (cI, 4, .inl t_sizes))])) (va_Qi (fun (r : Int32) (u : Unit) => Q r) (fun u t => gz_E (dC, dI) (gz_T cI cJ cC cZ) (va_A [(h_t, .inr (4, [.ref h_t_items, .ref h_t_lanes, .ref h_t_sizes])), (h_t_lanes, .inl (cI, 4, .inl t_lanes)), (h_t_sizes, .inl (cI, 4, .inl t_sizes))] sz) [(h_t, .inr (4, [.ref h_t_items, .ref h_t_lanes, .ref h_t_sizes])), (h_t_lanes, .inl (cI, 4, .inl t_lanes)), (h_t_sizes, .inl (cI, 4, .inl t_sizes))] t) (va_A [(h_t, .inr (4, [.ref h_t_items, .ref h_t_lanes, .ref h_t_sizes])), (h_t_lanes, .inl (cI, 4, .inl t_lanes)), (h_t_sizes, .inl (cI, 4, .inl t_sizes))] sz)) 0 0 (va_A [(h_t, .inr (4, [.ref h_t_items, .ref h_t_lanes, .ref h_t_sizes])), (h_t_lanes, .inl (cI, 4, .inl t_lanes)), (h_t_sizes, .inl (cI, 4, .inl t_sizes))] sz) := by
  refine gz_mi (cc := cX7_refusal) (maxL := 5) (plainFor_of_name (by decide +kernel)) rfl (Nat.le_of_ble_eq_true rfl) ?_
  intro p e s m below meth c A QQ ls hx hb hml hown0 hts hK hN hA hP hD hS hl ret
  have hown : s.vm.findClass RX7 = some m.cls := hown0
  have hl : lv_has ls 5 [(0, .ref h_t), (1, .int x1), (2, .int x2), (3, .int x3), (4, .int x4)] := hl
  have q0 := hts (.fieldLink RX7 15 "DarkShadows$Sheets" "lanes" "[I") (List.mem_cons_of_mem _ (List.mem_append_left _ (List.mem_of_getElem? (i := 1) rfl)))
  have hinX7 : ∀ w ∈ wsX70, w ∈ wsX7_refusal := fun w h => List.mem_cons_of_mem _ (List.mem_append_right _ h)
  have q2 := hts (.constant RX7 32 (-1000013)) (List.mem_cons_of_mem _ (List.mem_append_left _ (List.mem_of_getElem? (i := 3) rfl)))
  have q3 := hts (.constant RX7 27 (-1000012)) (List.mem_cons_of_mem _ (List.mem_append_left _ (List.mem_of_getElem? (i := 2) rfl)))
  have q4 := hts (.constant RX7 26 (-1000011)) (List.mem_cons_of_mem _ (List.mem_append_left _ (List.mem_of_getElem? (i := 0) rfl)))
  have hf := hw
  refine lv_aload_n hx hb dX7_refusal_0 rfl (lv_at hl 0 rfl) ?_
  refine lv_iload_n hx hb dX7_refusal_1 rfl (lv_at hl 1 rfl) ?_
  refine gz_iR (va_runV (As := [.int x1]) (rest := []) ⟨hx, hb, hml, hown, hts⟩ (c_X7_holdsNothing l dC dI cI cJ cC cZ h_t h_t_items h_t_lanes h_t_sizes s.heap.size t_lanes x1 _ hf) (cwV 1 hts gX7_refusal_X7_holdsNothing rfl rfl rfl (by decide +kernel) ⟨Nat.le_of_ble_eq_true rfl, Nat.le_of_ble_eq_true rfl⟩) ⟨gz_blind, va_recv hK hP (ci := 4) (q0 := 0) rfl rfl, gz_pre (gz_P_of hP (is := [0, 1]) (wc := [(h_t, .inr (4, [.ref h_t_items, .ref h_t_lanes, .ref h_t_sizes])), (h_t_lanes, .inl (cI, 4, .inl t_lanes))]) rfl) hK (hD.sub [0, 1] (by decide) rfl) gz_N0⟩ rfl rfl hl.1 rfl (lv_room (Nat.le_of_ble_eq_true rfl)) dX7_refusal_2 ⟨Nat.le_refl _, Nat.le_refl _⟩) hP hD hS hA [0, 1] rfl (fun r1 H locs hf hP hS => ?_)
  refine lv_if_eq (tgt := 11) hx hb dX7_refusal_5 (by decide) (fun hc6 => ?_) (fun hc6 => ?_)
  · have hf := hf.1 hc6
    refine lv_aload_n hx hb dX7_refusal_11 rfl (lv_at hl 0 rfl) ?_
    refine va_get (D := (dC, dI)) (ci := 4) (v := .ref h_t_lanes) (C := RX7) (T := TX7) (N := 3) hx hb hts hinX7 hown hK hP 0 rfl rfl 1 (by decide) q0 (fun _ h9 => h9) rfl dX7_refusal_12 ?_
    refine lv_iload_n hx hb dX7_refusal_15 rfl (lv_at hl 1 rfl) ?_
    obtain ⟨hb2, hf⟩ := hf
    refine va_iald hx hb hK hP 1 0 rfl rfl hb2 dX7_refusal_16 ?_
    refine lv_iload_n hx hb dX7_refusal_17 rfl (lv_at hl 2 rfl) ?_
    refine lv_icmp_eq (tgt := 24) hx hb dX7_refusal_18 (by decide) (fun hc5 => ?_) (fun hc5 => ?_)
    · have hf := hf.1 hc5
      refine lv_aload_n hx hb dX7_refusal_24 rfl (lv_at hl 0 rfl) ?_
      refine lv_iload_n hx hb dX7_refusal_25 rfl (lv_at hl 1 rfl) ?_
      refine lv_iload_n hx hb dX7_refusal_26 rfl (lv_at hl 3 rfl) ?_
      refine lv_iload hx hb dX7_refusal_27 (lv_at hl 4 rfl) ?_
      refine gz_iR (va_runV (As := [.int x1, .int x3, .int x4]) (rest := []) ⟨hx, hb, hml, hown, hts⟩ (c_X7_isBeyond l dC dI cI cJ cC cZ h_t h_t_items h_t_lanes h_t_sizes H.size t_sizes x1 x3 x4 _ hf) (cwV 3 hts gX7_refusal_X7_isBeyond rfl rfl rfl (by decide +kernel) ⟨Nat.le_of_ble_eq_true rfl, Nat.le_of_ble_eq_true rfl⟩) ⟨gz_blind, va_recv hK hP (ci := 4) (q0 := 0) rfl rfl, gz_pre (gz_P_of hP (is := [0, 2]) (wc := [(h_t, .inr (4, [.ref h_t_items, .ref h_t_lanes, .ref h_t_sizes])), (h_t_sizes, .inl (cI, 4, .inl t_sizes))]) rfl) hK (hD.sub [0, 2] (by decide) rfl) gz_N0⟩ rfl rfl hl.1 rfl (lv_room (Nat.le_of_ble_eq_true rfl)) dX7_refusal_29 ⟨Nat.le_refl _, Nat.le_refl _⟩) hP hD hS hA [0, 2] rfl (fun r3 H locs hf hP hS => ?_)
      refine lv_if_eq (tgt := 40) hx hb dX7_refusal_32 (by decide) (fun hc4 => ?_) (fun hc4 => ?_)
      · have hf := hf.1 hc4
        refine lv_iconst (v := (0 : Int32)) hx hb dX7_refusal_40 (by decide) ?_
        exact ret _ _ _ _ (0 : Int32) () hf hP hD hS dX7_refusal_41
      · have hf := hf.2 hc4
        refine lv_ldc (v := (-1000013 : Int32)) hx hb hown q2 dX7_refusal_35 ?_
        refine lv_goto (tgt := 41) hx hb dX7_refusal_37 (by decide) ?_
        exact ret _ _ _ _ (-1000013 : Int32) () hf hP hD hS dX7_refusal_41
    · have hf := hf.2 hc5
      refine lv_ldc (v := (-1000012 : Int32)) hx hb hown q3 dX7_refusal_21 ?_
      exact ret _ _ _ _ (-1000012 : Int32) () hf hP hD hS dX7_refusal_23
  · have hf := hf.2 hc6
    refine lv_ldc (v := (-1000011 : Int32)) hx hb hown q4 dX7_refusal_8 ?_
    exact ret _ _ _ _ (-1000011 : Int32) () hf hP hD hS dX7_refusal_10
abbrev rm_X7_get : Room := { frames := 0, cells := 0, slots := 0, locals := 0 }
set_option maxHeartbeats 4000000 in
set_option maxRecDepth 100000 in
theorem c_X7_get (l : Launch) (dC : Nat → ClassId) (dI : Nat → Nat → Nat) (cI cJ cC cZ : ClassId) (h_t h_t_items h_t_lanes h_t_sizes : Nat) (sz : Nat) (t_items : Nat → Int64) (x1 : Int32) (x2 : Int32) (Q : Int64 → Prop) (hw : p_X7_get t_items x1 x2 Q) : Met l yX7_get wsX7_get rm_X7_get (va_Pc [.ref h_t, .int x1, .int x2] (gz_B (dC, dI) (gz_T cI cJ cC cZ) [] sz [(h_t, .inr (4, [.ref h_t_items, .ref h_t_lanes, .ref h_t_sizes])), (h_t_items, .inl (cJ, 96, .inr (.inl t_items)))])) (va_Ql (fun (r : Int64) (u : Unit) => Q r) (fun u t => gz_E (dC, dI) (gz_T cI cJ cC cZ) (va_A [(h_t, .inr (4, [.ref h_t_items, .ref h_t_lanes, .ref h_t_sizes])), (h_t_items, .inl (cJ, 96, .inr (.inl t_items)))] sz) [(h_t, .inr (4, [.ref h_t_items, .ref h_t_lanes, .ref h_t_sizes])), (h_t_items, .inl (cJ, 96, .inr (.inl t_items)))] t) (va_A [(h_t, .inr (4, [.ref h_t_items, .ref h_t_lanes, .ref h_t_sizes])), (h_t_items, .inl (cJ, 96, .inr (.inl t_items)))] sz)) 0 0 (va_A [(h_t, .inr (4, [.ref h_t_items, .ref h_t_lanes, .ref h_t_sizes])), (h_t_items, .inl (cJ, 96, .inr (.inl t_items)))] sz) := by
  refine gz_ml (cc := cX7_get) (maxL := 3) (plainFor_of_name (by decide +kernel)) rfl (Nat.le_of_ble_eq_true rfl) ?_
  intro p e s m below meth c A QQ ls hx hb hml hown0 hts hK hN hA hP hD hS hl ret
  have hown : s.vm.findClass RX7 = some m.cls := hown0
  have hl : lv_has ls 3 [(0, .ref h_t), (1, .int x1), (2, .int x2)] := hl
  have q0 := hts (.fieldLink RX7 9 "DarkShadows$Sheets" "items" "[J") (List.mem_cons_of_mem _ (List.mem_append_left _ (List.mem_of_getElem? (i := 0) rfl)))
  have hinX7 : ∀ w ∈ wsX70, w ∈ wsX7_get := fun w h => List.mem_cons_of_mem _ (List.mem_append_right _ h)
  have hf := hw
  refine lv_aload_n hx hb dX7_get_0 rfl (lv_at hl 0 rfl) ?_
  refine va_get (D := (dC, dI)) (ci := 4) (v := .ref h_t_items) (C := RX7) (T := TX7) (N := 3) hx hb hts hinX7 hown hK hP 0 rfl rfl 0 (by decide) q0 (fun _ h9 => h9) rfl dX7_get_1 ?_
  refine lv_iload_n hx hb dX7_get_4 rfl (lv_at hl 1 rfl) ?_
  refine lv_bipush (v := (24 : Int32)) hx hb dX7_get_5 (by decide) ?_
  refine lv_imul hx hb dX7_get_7 ?_
  refine lv_iload_n hx hb dX7_get_8 rfl (lv_at hl 2 rfl) ?_
  refine lv_iadd hx hb dX7_get_9 ?_
  obtain ⟨hb1, hf⟩ := hf
  refine va_lald hx hb hK hP 1 1 rfl rfl hb1 dX7_get_10 ?_
  exact ret _ _ _ _ (t_items ((x1 * (24 : Int32)) + x2).toNatClampNeg) () hf hP hD hS dX7_get_11
abbrev rm_X7_arePoints : Room := { frames := 1, cells := 0, slots := 0, locals := 22 }
set_option maxHeartbeats 4000000 in
set_option maxRecDepth 100000 in
theorem c_X7_arePoints (l : Launch) (dC : Nat → ClassId) (dI : Nat → Nat → Nat) (cI cJ cC cZ : ClassId) (h_t h_t_items h_t_lanes h_t_sizes : Nat) (sz : Nat) (t_items : Nat → Int64) (x1 : Int32) (x2 : Int32) (x3 : Int32) (Q : Int32 → Prop) (hw : p_X7_arePoints t_items x1 x2 x3 Q) : Met l yX7_arePoints wsX7_arePoints rm_X7_arePoints (va_Pc [.ref h_t, .int x1, .int x2, .int x3] (gz_B (dC, dI) (gz_T cI cJ cC cZ) [] sz [(h_t, .inr (4, [.ref h_t_items, .ref h_t_lanes, .ref h_t_sizes])), (h_t_items, .inl (cJ, 96, .inr (.inl t_items)))])) (va_Qi (fun (r : Int32) (u : Unit) => Q r) (fun u t => gz_E (dC, dI) (gz_T cI cJ cC cZ) (va_A [(h_t, .inr (4, [.ref h_t_items, .ref h_t_lanes, .ref h_t_sizes])), (h_t_items, .inl (cJ, 96, .inr (.inl t_items)))] sz) [(h_t, .inr (4, [.ref h_t_items, .ref h_t_lanes, .ref h_t_sizes])), (h_t_items, .inl (cJ, 96, .inr (.inl t_items)))] t) (va_A [(h_t, .inr (4, [.ref h_t_items, .ref h_t_lanes, .ref h_t_sizes])), (h_t_items, .inl (cJ, 96, .inr (.inl t_items)))] sz)) 0 0 (va_A [(h_t, .inr (4, [.ref h_t_items, .ref h_t_lanes, .ref h_t_sizes])), (h_t_items, .inl (cJ, 96, .inr (.inl t_items)))] sz) := by
  refine gz_mz (cc := cX7_arePoints) (maxL := 7) (plainFor_of_name (by decide +kernel)) rfl (Nat.le_of_ble_eq_true rfl) ?_
  intro p e s m below meth c A QQ ls hx hb hml hown0 hts hK hN hA hP hD hS hl ret
  have hown : s.vm.findClass RX7 = some m.cls := hown0
  have hl : lv_has ls 7 [(0, .ref h_t), (1, .int x1), (2, .int x2), (3, .int x3)] := hl
  have q0 := hts (.constantLong RX7 37 (4095)) (List.mem_cons_of_mem _ (List.mem_append_left _ (List.mem_of_getElem? (i := 0) rfl)))
  have L3 : ∀ (n : Nat) (x4 : Int32) (H : Heap) (locs : List Loc) (ls : Array Slot), gi1 (p_X7_arePoints_3 t_items x1 x2 x3 Q) n x4 → va_P (dC, dI) vwCl [(h_t, .inr (4, [.ref h_t_items, .ref h_t_lanes, .ref h_t_sizes])), (h_t_items, .inl (cJ, 96, .inr (.inl t_items)))] H → va_D A [(h_t, .inr (4, [.ref h_t_items, .ref h_t_lanes, .ref h_t_sizes])), (h_t_items, .inl (cJ, 96, .inr (.inl t_items)))] → va_S A s.heap H locs → lv_has ls 7 [(0, .ref h_t), (1, .int x1), (2, .int x2), (3, .int x3), (4, .int x4)] → W p l e rm_X7_arePoints s m [.ref h_t, .int x1, .int x2, .int x3].toArray below meth c H locs 0 0 QQ (F0 m 3 ls []) := by
    intro  n
    induction n with
    | zero => intro x4 H locs ls hf; exact False.elim hf
    | succ n ih3 =>
      generalize hK3 : gi1 (p_X7_arePoints_3 t_items x1 x2 x3 Q) n = K3 at ih3
      intro x4 H locs ls hf hP hD hS hl
      have hf : p_X7_arePoints_3 t_items x1 x2 x3 Q (gi1 (p_X7_arePoints_3 t_items x1 x2 x3 Q) n) x4 := hf
      rw [hK3] at hf
      refine lv_iload hx hb dX7_arePoints_3 (lv_at hl 4 rfl) ?_
      refine lv_iload_n hx hb dX7_arePoints_5 rfl (lv_at hl 3 rfl) ?_
      refine lv_icmp_ge (tgt := 44) hx hb dX7_arePoints_6 (by decide) (fun hc4 => ?_) (fun hc4 => ?_)
      · have hf := hf.1 hc4
        refine lv_iconst (v := (1 : Int32)) hx hb dX7_arePoints_44 (by decide) ?_
        exact ret _ _ _ _ (1 : Int32) () rfl hf hP hD hS dX7_arePoints_45
      · have hf := hf.2 hc4
        refine lv_aload_n hx hb dX7_arePoints_9 rfl (lv_at hl 0 rfl) ?_
        refine lv_iload_n hx hb dX7_arePoints_10 rfl (lv_at hl 1 rfl) ?_
        refine lv_iload_n hx hb dX7_arePoints_11 rfl (lv_at hl 2 rfl) ?_
        refine lv_iload hx hb dX7_arePoints_12 (lv_at hl 4 rfl) ?_
        refine lv_iadd hx hb dX7_arePoints_14 ?_
        refine gz_lR (va_runV (As := [.int x1, .int (x2 + x4)]) (rest := []) ⟨hx, hb, hml, hown, hts⟩ (c_X7_get l dC dI cI cJ cC cZ h_t h_t_items h_t_lanes h_t_sizes H.size t_items x1 (x2 + x4) _ hf) (cwV 2 hts gX7_arePoints_X7_get rfl rfl rfl (by decide +kernel) ⟨Nat.le_of_ble_eq_true rfl, Nat.le_of_ble_eq_true rfl⟩) ⟨gz_blind, va_recv hK hP (ci := 4) (q0 := 0) rfl rfl, gz_pre (gz_P_of hP (is := [0, 1]) (wc := [(h_t, .inr (4, [.ref h_t_items, .ref h_t_lanes, .ref h_t_sizes])), (h_t_items, .inl (cJ, 96, .inr (.inl t_items)))]) rfl) hK (hD.sub [0, 1] (by decide) rfl) gz_N0⟩ rfl rfl hl.1 rfl (lv_room (Nat.le_of_ble_eq_true rfl)) dX7_arePoints_15 ⟨Nat.le_refl _, Nat.le_refl _⟩) hP hD hS hA [0, 1] rfl (fun r1 H locs hf hP hS => ?_)
        refine lv_lstore (lv' := [(5, .long r1), (0, .ref h_t), (1, .int x1), (2, .int x2), (3, .int x3), (4, .int x4)]) hx hb dX7_arePoints_18 hl (by decide) rfl (fun ls hl => ?_)
        refine lv_lload hx hb dX7_arePoints_20 (lv_at hl 0 rfl) ?_
        refine lv_lconst (v := (0 : Int64)) hx hb dX7_arePoints_22 (by decide) ?_
        refine W.lcmp hx hb dX7_arePoints_23 ?_
        refine lv_if_lt (tgt := 36) hx hb dX7_arePoints_24 (by decide) (fun hc3 => ?_) (fun hc3 => ?_)
        · have hf := hf.1 hc3
          refine lv_iconst (v := (0 : Int32)) hx hb dX7_arePoints_36 (by decide) ?_
          exact ret _ _ _ _ (0 : Int32) () rfl hf hP hD hS dX7_arePoints_37
        · have hf := hf.2 hc3
          refine lv_lload hx hb dX7_arePoints_27 (lv_at hl 0 rfl) ?_
          refine lv_ldc2 (v := (4095 : Int64)) hx hb hown q0 dX7_arePoints_29 ?_
          refine W.lcmp hx hb dX7_arePoints_32 ?_
          refine lv_if_le (tgt := 38) hx hb dX7_arePoints_33 (by decide) (fun hc2 => ?_) (fun hc2 => ?_)
          · have hf := hf.1 hc2
            refine lv_iinc (v := (x4 + (1 : Int32))) (lv' := [(4, .int (x4 + (1 : Int32))), (5, .long r1), (0, .ref h_t), (1, .int x1), (2, .int x2), (3, .int x3)]) hx hb dX7_arePoints_38 hl (k := 5) rfl rfl (by decide) rfl (fun ls hl => ?_)
            refine lv_goto (tgt := 3) hx hb dX7_arePoints_41 (by decide) ?_
            exact ih3 (x4 + (1 : Int32)) _ _ _ hf hP hD hS (lv_sub hl [2, 3, 4, 5, 0] rfl)
          · have hf := hf.2 hc2
            refine lv_iconst (v := (0 : Int32)) hx hb dX7_arePoints_36 (by decide) ?_
            exact ret _ _ _ _ (0 : Int32) () rfl hf hP hD hS dX7_arePoints_37
  have hf := hw
  refine lv_iconst (v := (0 : Int32)) hx hb dX7_arePoints_0 (by decide) ?_
  refine lv_istore (lv' := [(4, .int (0 : Int32)), (0, .ref h_t), (1, .int x1), (2, .int x2), (3, .int x3)]) hx hb dX7_arePoints_1 hl (by decide) rfl (fun ls hl => ?_)
  obtain ⟨n, hf⟩ := hf
  exact L3  n (0 : Int32) _ _ _ hf hP hD hS (lv_sub hl [1, 2, 3, 4, 0] rfl)
abbrev rm_X7_lowestBits : Room := { frames := 0, cells := 0, slots := 0, locals := 0 }
set_option maxHeartbeats 4000000 in
set_option maxRecDepth 100000 in
theorem c_X7_lowestBits (l : Launch) (dC : Nat → ClassId) (dI : Nat → Nat → Nat) (cI cJ cC cZ : ClassId) (sz : Nat) (x0 : Int32) (x1 : Int64) (Q : Int64 → Prop) (hw : p_X7_lowestBits x0 x1 Q) : Met l yX7_lowestBits wsX7_lowestBits rm_X7_lowestBits (va_Pc [.int x0, .long x1] (gz_B (dC, dI) (gz_T cI cJ cC cZ) [] sz [])) (va_Ql (fun (r : Int64) (u : Unit) => Q r) (fun u t => gz_E (dC, dI) (gz_T cI cJ cC cZ) (va_A [] sz) [] t) (va_A [] sz)) 0 0 (va_A [] sz) := by
  refine gz_ml (cc := cX7_lowestBits) (maxL := 3) (plainFor_of_name (by decide +kernel)) rfl (Nat.le_of_ble_eq_true rfl) ?_
  intro p e s m below meth c A QQ ls hx hb hml hown0 hts hK hN hA hP hD hS hl ret
  have hown : s.vm.findClass RX7 = some m.cls := hown0
  have hl : lv_has ls 3 [(0, .int x0), (1, .long x1)] := hl
  have hf := hw
  refine lv_iload_n hx hb dX7_lowestBits_0 rfl (lv_at hl 0 rfl) ?_
  by_cases hc1 : x0 = (0 : Int32)
  · have hf := hf.1 hc1
    refine lv_tableIn (off := 27) (tgt := 28) hx hb dX7_lowestBits_1 (by rw [hc1]; decide) (by rw [hc1]; decide) (by rw [hc1]; rfl) (by decide) ?_
    refine lv_lload_n hx hb dX7_lowestBits_28 rfl (lv_at hl 1 rfl) ?_
    refine lv_l2i (v := (x1.toInt32)) hx hb dX7_lowestBits_29 rfl ?_
    refine lv_i2b (v := ((x1.toInt32).toInt8.toInt32)) hx hb dX7_lowestBits_30 rfl ?_
    refine lv_i2l (v := (((x1.toInt32).toInt8.toInt32).toInt64)) hx hb dX7_lowestBits_31 rfl ?_
    exact ret _ _ _ _ (((x1.toInt32).toInt8.toInt32).toInt64) () hf hP hD hS dX7_lowestBits_32
  · have hf := hf.2 hc1
    by_cases hc2 : x0 = (1 : Int32)
    · have hf := hf.1 hc2
      refine lv_tableIn (off := 32) (tgt := 33) hx hb dX7_lowestBits_1 (by rw [hc2]; decide) (by rw [hc2]; decide) (by rw [hc2]; rfl) (by decide) ?_
      refine lv_lload_n hx hb dX7_lowestBits_33 rfl (lv_at hl 1 rfl) ?_
      refine lv_l2i (v := (x1.toInt32)) hx hb dX7_lowestBits_34 rfl ?_
      refine lv_i2s (v := ((x1.toInt32).toInt16.toInt32)) hx hb dX7_lowestBits_35 rfl ?_
      refine lv_i2l (v := (((x1.toInt32).toInt16.toInt32).toInt64)) hx hb dX7_lowestBits_36 rfl ?_
      exact ret _ _ _ _ (((x1.toInt32).toInt16.toInt32).toInt64) () hf hP hD hS dX7_lowestBits_37
    · have hf := hf.2 hc2
      by_cases hc3 : x0 = (2 : Int32)
      · have hf := hf.1 hc3
        refine lv_tableIn (off := 37) (tgt := 38) hx hb dX7_lowestBits_1 (by rw [hc3]; decide) (by rw [hc3]; decide) (by rw [hc3]; rfl) (by decide) ?_
        refine lv_lload_n hx hb dX7_lowestBits_38 rfl (lv_at hl 1 rfl) ?_
        refine lv_l2i (v := (x1.toInt32)) hx hb dX7_lowestBits_39 rfl ?_
        refine lv_i2l (v := ((x1.toInt32).toInt64)) hx hb dX7_lowestBits_40 rfl ?_
        exact ret _ _ _ _ ((x1.toInt32).toInt64) () hf hP hD hS dX7_lowestBits_41
      · have hf := hf.2 hc3
        refine lv_tableOut (tgt := 42) hx hb dX7_lowestBits_1 (gz_out3 hc1 hc2 hc3) (by decide) ?_
        refine lv_lload_n hx hb dX7_lowestBits_42 rfl (lv_at hl 1 rfl) ?_
        exact ret _ _ _ _ x1 () hf hP hD hS dX7_lowestBits_43
abbrev rm_X7_put : Room := { frames := 1, cells := 0, slots := 0, locals := 22 }
set_option maxHeartbeats 4000000 in
set_option maxRecDepth 100000 in
theorem c_X7_put (l : Launch) (dC : Nat → ClassId) (dI : Nat → Nat → Nat) (cI cJ cC cZ : ClassId) (h_t h_t_items h_t_lanes h_t_sizes : Nat) (sz : Nat) (t_items : Nat → Int64) (t_lanes : Nat → Int32) (x1 : Int32) (x2 : Int32) (x3 : Int64) (Q : (Nat → Int64) → Prop) (hw : p_X7_put t_items t_lanes x1 x2 x3 Q) : Met l yX7_put wsX7_put rm_X7_put (va_Pc [.ref h_t, .int x1, .int x2, .long x3] (gz_B (dC, dI) (gz_T cI cJ cC cZ) [] sz [(h_t, .inr (4, [.ref h_t_items, .ref h_t_lanes, .ref h_t_sizes])), (h_t_items, .inl (cJ, 96, .inr (.inl t_items))), (h_t_lanes, .inl (cI, 4, .inl t_lanes))])) (va_Qv (fun (u : (Nat → Int64)) => Q u) (fun u t => gz_E (dC, dI) (gz_T cI cJ cC cZ) (va_A [(h_t, .inr (4, [.ref h_t_items, .ref h_t_lanes, .ref h_t_sizes])), (h_t_items, .inl (cJ, 96, .inr (.inl t_items))), (h_t_lanes, .inl (cI, 4, .inl t_lanes))] sz) [(h_t, .inr (4, [.ref h_t_items, .ref h_t_lanes, .ref h_t_sizes])), (h_t_items, .inl (cJ, 96, .inr (.inl u))), (h_t_lanes, .inl (cI, 4, .inl t_lanes))] t) (va_A [(h_t, .inr (4, [.ref h_t_items, .ref h_t_lanes, .ref h_t_sizes])), (h_t_items, .inl (cJ, 96, .inr (.inl t_items))), (h_t_lanes, .inl (cI, 4, .inl t_lanes))] sz)) 0 0 (va_A [(h_t, .inr (4, [.ref h_t_items, .ref h_t_lanes, .ref h_t_sizes])), (h_t_items, .inl (cJ, 96, .inr (.inl t_items))), (h_t_lanes, .inl (cI, 4, .inl t_lanes))] sz) := by
  refine gz_mv (cc := cX7_put) (maxL := 5) (plainFor_of_name (by decide +kernel)) rfl (Nat.le_of_ble_eq_true rfl) ?_
  intro p e s m below meth c A QQ ls hx hb hml hown0 hts hK hN hA hP hD hS hl ret
  have hown : s.vm.findClass RX7 = some m.cls := hown0
  have hl : lv_has ls 5 [(0, .ref h_t), (1, .int x1), (2, .int x2), (3, .long x3)] := hl
  have q0 := hts (.fieldLink RX7 9 "DarkShadows$Sheets" "items" "[J") (List.mem_cons_of_mem _ (List.mem_append_left _ (List.mem_of_getElem? (i := 0) rfl)))
  have hinX7 : ∀ w ∈ wsX70, w ∈ wsX7_put := fun w h => List.mem_cons_of_mem _ (List.mem_append_right _ h)
  have q2 := hts (.fieldLink RX7 15 "DarkShadows$Sheets" "lanes" "[I") (List.mem_cons_of_mem _ (List.mem_append_left _ (List.mem_of_getElem? (i := 1) rfl)))
  have hf := hw
  refine lv_aload_n hx hb dX7_put_0 rfl (lv_at hl 0 rfl) ?_
  refine va_get (D := (dC, dI)) (ci := 4) (v := .ref h_t_items) (C := RX7) (T := TX7) (N := 3) hx hb hts hinX7 hown hK hP 0 rfl rfl 0 (by decide) q0 (fun _ h9 => h9) rfl dX7_put_1 ?_
  refine lv_iload_n hx hb dX7_put_4 rfl (lv_at hl 1 rfl) ?_
  refine lv_bipush (v := (24 : Int32)) hx hb dX7_put_5 (by decide) ?_
  refine lv_imul hx hb dX7_put_7 ?_
  refine lv_iload_n hx hb dX7_put_8 rfl (lv_at hl 2 rfl) ?_
  refine lv_iadd hx hb dX7_put_9 ?_
  refine lv_aload_n hx hb dX7_put_10 rfl (lv_at hl 0 rfl) ?_
  refine va_get (D := (dC, dI)) (ci := 4) (v := .ref h_t_lanes) (C := RX7) (T := TX7) (N := 3) hx hb hts hinX7 hown hK hP 0 rfl rfl 1 (by decide) q2 (fun _ h9 => h9) rfl dX7_put_11 ?_
  refine lv_iload_n hx hb dX7_put_14 rfl (lv_at hl 1 rfl) ?_
  obtain ⟨hb1, hf⟩ := hf
  refine va_iald hx hb hK hP 2 0 rfl rfl hb1 dX7_put_15 ?_
  refine lv_lload_n hx hb dX7_put_16 rfl (lv_at hl 3 rfl) ?_
  refine gz_lR (va_runS (As := [.int (t_lanes x1.toNatClampNeg), .long x3]) (rest := [.int ((x1 * (24 : Int32)) + x2), .ref h_t_items]) ⟨hx, hb, hml, hown, hts⟩ (c_X7_lowestBits l dC dI cI cJ cC cZ s.heap.size (t_lanes x1.toNatClampNeg) x3 _ hf) (va_cwS 2 hts gX7_put_X7_lowestBits rfl rfl rfl (by decide +kernel) ⟨Nat.le_of_ble_eq_true rfl, Nat.le_of_ble_eq_true rfl⟩) ⟨gz_blind, gz_pre (gz_P_of hP (is := []) (wc := []) rfl) hK (hD.sub [] (by decide) rfl) gz_N0⟩ rfl rfl hl.1 rfl (lv_room (Nat.le_of_ble_eq_true rfl)) dX7_put_17 ⟨Nat.le_refl _, Nat.le_refl _⟩) hP hD hS hA [] rfl (fun r2 H locs hf hP hS => ?_)
  obtain ⟨hb3, hf⟩ := hf
  refine va_last hx hb hK hP hD hS 1 1 rfl rfl hb3 dX7_put_20 (fun H locs hP hD hS => ?_)
  have hP : va_P (dC, dI) vwCl [(h_t, .inr (4, [.ref h_t_items, .ref h_t_lanes, .ref h_t_sizes])), (h_t_items, .inl (cJ, 96, .inr (.inl (vp_updL t_items ((x1 * (24 : Int32)) + x2).toNatClampNeg r2)))), (h_t_lanes, .inl (cI, 4, .inl t_lanes))] H := hP
  have hD : va_D A [(h_t, .inr (4, [.ref h_t_items, .ref h_t_lanes, .ref h_t_sizes])), (h_t_items, .inl (cJ, 96, .inr (.inl (vp_updL t_items ((x1 * (24 : Int32)) + x2).toNatClampNeg r2)))), (h_t_lanes, .inl (cI, 4, .inl t_lanes))] := hD
  exact ret _ _ _ _ (vp_updL t_items ((x1 * (24 : Int32)) + x2).toNatClampNeg r2) hf hP hD hS dX7_put_21
abbrev rm_X7_lay : Room := { frames := 2, cells := 0, slots := 0, locals := 46 }
set_option maxHeartbeats 4000000 in
set_option maxRecDepth 100000 in
theorem c_X7_lay (l : Launch) (dC : Nat → ClassId) (dI : Nat → Nat → Nat) (cI cJ cC cZ : ClassId) (h_t h_t_items h_t_lanes h_t_sizes : Nat) (sz : Nat) (t_items : Nat → Int64) (t_lanes : Nat → Int32) (t_sizes : Nat → Int32) (x1 : Int32) (x2 : Int32) (x3 : Int32) (Q : (Nat → Int64) → (Nat → Int32) → (Nat → Int32) → Prop) (hw : p_X7_lay t_items t_lanes t_sizes x1 x2 x3 Q) : Met l yX7_lay wsX7_lay rm_X7_lay (va_Pc [.ref h_t, .int x1, .int x2, .int x3] (gz_B (dC, dI) (gz_T cI cJ cC cZ) [] sz [(h_t, .inr (4, [.ref h_t_items, .ref h_t_lanes, .ref h_t_sizes])), (h_t_items, .inl (cJ, 96, .inr (.inl t_items))), (h_t_lanes, .inl (cI, 4, .inl t_lanes)), (h_t_sizes, .inl (cI, 4, .inl t_sizes))])) (va_Qv (fun (u : (Nat → Int64) × (Nat → Int32) × (Nat → Int32)) => Q u.1 u.2.1 u.2.2) (fun u t => gz_E (dC, dI) (gz_T cI cJ cC cZ) (va_A [(h_t, .inr (4, [.ref h_t_items, .ref h_t_lanes, .ref h_t_sizes])), (h_t_items, .inl (cJ, 96, .inr (.inl t_items))), (h_t_lanes, .inl (cI, 4, .inl t_lanes)), (h_t_sizes, .inl (cI, 4, .inl t_sizes))] sz) [(h_t, .inr (4, [.ref h_t_items, .ref h_t_lanes, .ref h_t_sizes])), (h_t_items, .inl (cJ, 96, .inr (.inl u.1))), (h_t_lanes, .inl (cI, 4, .inl u.2.1)), (h_t_sizes, .inl (cI, 4, .inl u.2.2))] t) (va_A [(h_t, .inr (4, [.ref h_t_items, .ref h_t_lanes, .ref h_t_sizes])), (h_t_items, .inl (cJ, 96, .inr (.inl t_items))), (h_t_lanes, .inl (cI, 4, .inl t_lanes)), (h_t_sizes, .inl (cI, 4, .inl t_sizes))] sz)) 0 0 (va_A [(h_t, .inr (4, [.ref h_t_items, .ref h_t_lanes, .ref h_t_sizes])), (h_t_items, .inl (cJ, 96, .inr (.inl t_items))), (h_t_lanes, .inl (cI, 4, .inl t_lanes)), (h_t_sizes, .inl (cI, 4, .inl t_sizes))] sz) := by
  refine gz_mv (cc := cX7_lay) (maxL := 5) (plainFor_of_name (by decide +kernel)) rfl (Nat.le_of_ble_eq_true rfl) ?_
  intro p e s m below meth c A QQ ls hx hb hml hown0 hts hK hN hA hP hD hS hl ret
  have hown : s.vm.findClass RX7 = some m.cls := hown0
  have hl : lv_has ls 5 [(0, .ref h_t), (1, .int x1), (2, .int x2), (3, .int x3)] := hl
  have q0 := hts (.fieldLink RX7 15 "DarkShadows$Sheets" "lanes" "[I") (List.mem_cons_of_mem _ (List.mem_append_left _ (List.mem_of_getElem? (i := 0) rfl)))
  have hinX7 : ∀ w ∈ wsX70, w ∈ wsX7_lay := fun w h => List.mem_cons_of_mem _ (List.mem_append_right _ h)
  have q2 := hts (.fieldLink RX7 19 "DarkShadows$Sheets" "sizes" "[I") (List.mem_cons_of_mem _ (List.mem_append_left _ (List.mem_of_getElem? (i := 1) rfl)))
  have L17 : ∀ (t_lanes : Nat → Int32) (t_sizes : Nat → Int32) (n : Nat) (x4 : Int32) (t_items : Nat → Int64) (H : Heap) (locs : List Loc) (ls : Array Slot), gi2 (p_X7_lay_17 t_lanes t_sizes x1 x3 Q) n x4 t_items → va_P (dC, dI) vwCl [(h_t, .inr (4, [.ref h_t_items, .ref h_t_lanes, .ref h_t_sizes])), (h_t_items, .inl (cJ, 96, .inr (.inl t_items))), (h_t_lanes, .inl (cI, 4, .inl t_lanes)), (h_t_sizes, .inl (cI, 4, .inl t_sizes))] H → va_D A [(h_t, .inr (4, [.ref h_t_items, .ref h_t_lanes, .ref h_t_sizes])), (h_t_items, .inl (cJ, 96, .inr (.inl t_items))), (h_t_lanes, .inl (cI, 4, .inl t_lanes)), (h_t_sizes, .inl (cI, 4, .inl t_sizes))] → va_S A s.heap H locs → lv_has ls 5 [(0, .ref h_t), (1, .int x1), (3, .int x3), (4, .int x4)] → W p l e rm_X7_lay s m [.ref h_t, .int x1, .int x2, .int x3].toArray below meth c H locs 0 0 QQ (F0 m 17 ls []) := by
    intro t_lanes t_sizes n
    induction n with
    | zero => intro x4 t_items H locs ls hf; exact False.elim hf
    | succ n ih17 =>
      generalize hK17 : gi2 (p_X7_lay_17 t_lanes t_sizes x1 x3 Q) n = K17 at ih17
      intro x4 t_items H locs ls hf hP hD hS hl
      have hf : p_X7_lay_17 t_lanes t_sizes x1 x3 Q (gi2 (p_X7_lay_17 t_lanes t_sizes x1 x3 Q) n) x4 t_items := hf
      rw [hK17] at hf
      refine lv_iload hx hb dX7_lay_17 (lv_at hl 3 rfl) ?_
      refine lv_iload_n hx hb dX7_lay_19 rfl (lv_at hl 2 rfl) ?_
      refine lv_icmp_ge (tgt := 37) hx hb dX7_lay_20 (by decide) (fun hc4 => ?_) (fun hc4 => ?_)
      · have hf := hf.1 hc4
        exact ret _ _ _ _ (t_items, t_lanes, t_sizes) hf hP hD hS dX7_lay_37
      · have hf := hf.2 hc4
        refine lv_aload_n hx hb dX7_lay_23 rfl (lv_at hl 0 rfl) ?_
        refine lv_iload_n hx hb dX7_lay_24 rfl (lv_at hl 1 rfl) ?_
        refine lv_iload hx hb dX7_lay_25 (lv_at hl 3 rfl) ?_
        refine lv_lconst (v := (0 : Int64)) hx hb dX7_lay_27 (by decide) ?_
        refine gz_v (W1 := (fun u : (Nat → Int64) => [(h_t, .inr (4, [.ref h_t_items, .ref h_t_lanes, .ref h_t_sizes])), (h_t_items, .inl (cJ, 96, .inr (.inl u))), (h_t_lanes, .inl (cI, 4, .inl t_lanes))])) (wn := (fun u : (Nat → Int64) => [(h_t, .inr (4, [.ref h_t_items, .ref h_t_lanes, .ref h_t_sizes])), (h_t_items, .inl (cJ, 96, .inr (.inl u))), (h_t_lanes, .inl (cI, 4, .inl t_lanes)), (h_t_sizes, .inl (cI, 4, .inl t_sizes))])) (wr := [(h_t_sizes, .inl (cI, 4, .inl t_sizes))]) (va_runV (As := [.int x1, .int x4, .long (0 : Int64)]) (rest := []) ⟨hx, hb, hml, hown, hts⟩ (c_X7_put l dC dI cI cJ cC cZ h_t h_t_items h_t_lanes h_t_sizes H.size t_items t_lanes x1 x4 (0 : Int64) _ hf) (cwV 3 hts gX7_lay_X7_put rfl rfl rfl (by decide +kernel) ⟨Nat.le_of_ble_eq_true rfl, Nat.le_of_ble_eq_true rfl⟩) ⟨gz_blind, va_recv hK hP (ci := 4) (q0 := 0) rfl rfl, gz_pre (gz_P_of hP (is := [0, 1, 2]) (wc := [(h_t, .inr (4, [.ref h_t_items, .ref h_t_lanes, .ref h_t_sizes])), (h_t_items, .inl (cJ, 96, .inr (.inl t_items))), (h_t_lanes, .inl (cI, 4, .inl t_lanes))]) rfl) hK (hD.sub [0, 1, 2] (by decide) rfl) gz_N0⟩ rfl rfl hl.1 rfl (lv_room (Nat.le_of_ble_eq_true rfl)) dX7_lay_28 ⟨Nat.le_refl _, Nat.le_refl _⟩) hP hD hS hA [0, 1, 2] [3] [1, 2, 3, 0] rfl rfl (by decide) (by decide) (fun _ => rfl) (by decide) (fun  y3 H locs hf hP hD hS => ?_)
        have hP : va_P (dC, dI) vwCl [(h_t, .inr (4, [.ref h_t_items, .ref h_t_lanes, .ref h_t_sizes])), (h_t_items, .inl (cJ, 96, .inr (.inl y3))), (h_t_lanes, .inl (cI, 4, .inl t_lanes)), (h_t_sizes, .inl (cI, 4, .inl t_sizes))] H := hP
        have hD : va_D A [(h_t, .inr (4, [.ref h_t_items, .ref h_t_lanes, .ref h_t_sizes])), (h_t_items, .inl (cJ, 96, .inr (.inl y3))), (h_t_lanes, .inl (cI, 4, .inl t_lanes)), (h_t_sizes, .inl (cI, 4, .inl t_sizes))] := hD
        refine lv_iinc (v := (x4 + (1 : Int32))) (lv' := [(4, .int (x4 + (1 : Int32))), (0, .ref h_t), (1, .int x1), (3, .int x3)]) hx hb dX7_lay_31 hl (k := 3) rfl rfl (by decide) rfl (fun ls hl => ?_)
        refine lv_goto (tgt := 17) hx hb dX7_lay_34 (by decide) ?_
        exact ih17 (x4 + (1 : Int32)) y3 _ _ _ hf hP hD hS (lv_sub hl [1, 2, 3, 0] rfl)
  have hf := hw
  refine lv_aload_n hx hb dX7_lay_0 rfl (lv_at hl 0 rfl) ?_
  refine va_get (D := (dC, dI)) (ci := 4) (v := .ref h_t_lanes) (C := RX7) (T := TX7) (N := 3) hx hb hts hinX7 hown hK hP 0 rfl rfl 1 (by decide) q0 (fun _ h9 => h9) rfl dX7_lay_1 ?_
  refine lv_iload_n hx hb dX7_lay_4 rfl (lv_at hl 1 rfl) ?_
  refine lv_iload_n hx hb dX7_lay_5 rfl (lv_at hl 2 rfl) ?_
  obtain ⟨hb1, hf⟩ := hf
  refine va_iast hx hb hK hP hD hS 2 0 rfl rfl hb1 dX7_lay_6 (fun H locs hP hD hS => ?_)
  have hP : va_P (dC, dI) vwCl [(h_t, .inr (4, [.ref h_t_items, .ref h_t_lanes, .ref h_t_sizes])), (h_t_items, .inl (cJ, 96, .inr (.inl t_items))), (h_t_lanes, .inl (cI, 4, .inl (upd t_lanes x1.toNatClampNeg x2))), (h_t_sizes, .inl (cI, 4, .inl t_sizes))] H := hP
  have hD : va_D A [(h_t, .inr (4, [.ref h_t_items, .ref h_t_lanes, .ref h_t_sizes])), (h_t_items, .inl (cJ, 96, .inr (.inl t_items))), (h_t_lanes, .inl (cI, 4, .inl (upd t_lanes x1.toNatClampNeg x2))), (h_t_sizes, .inl (cI, 4, .inl t_sizes))] := hD
  refine lv_aload_n hx hb dX7_lay_7 rfl (lv_at hl 0 rfl) ?_
  refine va_get (D := (dC, dI)) (ci := 4) (v := .ref h_t_sizes) (C := RX7) (T := TX7) (N := 3) hx hb hts hinX7 hown hK hP 0 rfl rfl 2 (by decide) q2 (fun _ h9 => h9) rfl dX7_lay_8 ?_
  refine lv_iload_n hx hb dX7_lay_11 rfl (lv_at hl 1 rfl) ?_
  refine lv_iload_n hx hb dX7_lay_12 rfl (lv_at hl 3 rfl) ?_
  obtain ⟨hb2, hf⟩ := hf
  refine va_iast hx hb hK hP hD hS 3 0 rfl rfl hb2 dX7_lay_13 (fun H locs hP hD hS => ?_)
  have hP : va_P (dC, dI) vwCl [(h_t, .inr (4, [.ref h_t_items, .ref h_t_lanes, .ref h_t_sizes])), (h_t_items, .inl (cJ, 96, .inr (.inl t_items))), (h_t_lanes, .inl (cI, 4, .inl (upd t_lanes x1.toNatClampNeg x2))), (h_t_sizes, .inl (cI, 4, .inl (upd t_sizes x1.toNatClampNeg x3)))] H := hP
  have hD : va_D A [(h_t, .inr (4, [.ref h_t_items, .ref h_t_lanes, .ref h_t_sizes])), (h_t_items, .inl (cJ, 96, .inr (.inl t_items))), (h_t_lanes, .inl (cI, 4, .inl (upd t_lanes x1.toNatClampNeg x2))), (h_t_sizes, .inl (cI, 4, .inl (upd t_sizes x1.toNatClampNeg x3)))] := hD
  refine lv_iconst (v := (0 : Int32)) hx hb dX7_lay_14 (by decide) ?_
  refine lv_istore (lv' := [(4, .int (0 : Int32)), (0, .ref h_t), (1, .int x1), (2, .int x2), (3, .int x3)]) hx hb dX7_lay_15 hl (by decide) rfl (fun ls hl => ?_)
  obtain ⟨n, hf⟩ := hf
  exact L17 (upd t_lanes x1.toNatClampNeg x2) (upd t_sizes x1.toNatClampNeg x3) n (0 : Int32) t_items _ _ _ hf hP hD hS (lv_sub hl [1, 2, 4, 0] rfl)
abbrev rm_X7_takeAway : Room := { frames := 0, cells := 0, slots := 0, locals := 0 }
set_option maxHeartbeats 4000000 in
set_option maxRecDepth 100000 in
theorem c_X7_takeAway (l : Launch) (dC : Nat → ClassId) (dI : Nat → Nat → Nat) (cI cJ cC cZ : ClassId) (h_t h_t_items h_t_lanes h_t_sizes : Nat) (sz : Nat) (t_lanes : Nat → Int32) (t_sizes : Nat → Int32) (x1 : Int32) (Q : Int32 → (Nat → Int32) → Prop) (hw : p_X7_takeAway t_lanes t_sizes x1 Q) : Met l yX7_takeAway wsX7_takeAway rm_X7_takeAway (va_Pc [.ref h_t, .int x1] (gz_B (dC, dI) (gz_T cI cJ cC cZ) [] sz [(h_t, .inr (4, [.ref h_t_items, .ref h_t_lanes, .ref h_t_sizes])), (h_t_lanes, .inl (cI, 4, .inl t_lanes)), (h_t_sizes, .inl (cI, 4, .inl t_sizes))])) (va_Qi (fun (r : Int32) (u : (Nat → Int32)) => Q r u) (fun u t => gz_E (dC, dI) (gz_T cI cJ cC cZ) (va_A [(h_t, .inr (4, [.ref h_t_items, .ref h_t_lanes, .ref h_t_sizes])), (h_t_lanes, .inl (cI, 4, .inl t_lanes)), (h_t_sizes, .inl (cI, 4, .inl t_sizes))] sz) [(h_t, .inr (4, [.ref h_t_items, .ref h_t_lanes, .ref h_t_sizes])), (h_t_lanes, .inl (cI, 4, .inl u)), (h_t_sizes, .inl (cI, 4, .inl t_sizes))] t) (va_A [(h_t, .inr (4, [.ref h_t_items, .ref h_t_lanes, .ref h_t_sizes])), (h_t_lanes, .inl (cI, 4, .inl t_lanes)), (h_t_sizes, .inl (cI, 4, .inl t_sizes))] sz)) 0 0 (va_A [(h_t, .inr (4, [.ref h_t_items, .ref h_t_lanes, .ref h_t_sizes])), (h_t_lanes, .inl (cI, 4, .inl t_lanes)), (h_t_sizes, .inl (cI, 4, .inl t_sizes))] sz) := by
  refine gz_mi (cc := cX7_takeAway) (maxL := 2) (plainFor_of_name (by decide +kernel)) rfl (Nat.le_of_ble_eq_true rfl) ?_
  intro p e s m below meth c A QQ ls hx hb hml hown0 hts hK hN hA hP hD hS hl ret
  have hown : s.vm.findClass RX7 = some m.cls := hown0
  have hl : lv_has ls 2 [(0, .ref h_t), (1, .int x1)] := hl
  have q0 := hts (.fieldLink RX7 15 "DarkShadows$Sheets" "lanes" "[I") (List.mem_cons_of_mem _ (List.mem_append_left _ (List.mem_of_getElem? (i := 0) rfl)))
  have hinX7 : ∀ w ∈ wsX70, w ∈ wsX7_takeAway := fun w h => List.mem_cons_of_mem _ (List.mem_append_right _ h)
  have q2 := hts (.fieldLink RX7 19 "DarkShadows$Sheets" "sizes" "[I") (List.mem_cons_of_mem _ (List.mem_append_left _ (List.mem_of_getElem? (i := 1) rfl)))
  have hf := hw
  refine lv_aload_n hx hb dX7_takeAway_0 rfl (lv_at hl 0 rfl) ?_
  refine va_get (D := (dC, dI)) (ci := 4) (v := .ref h_t_lanes) (C := RX7) (T := TX7) (N := 3) hx hb hts hinX7 hown hK hP 0 rfl rfl 1 (by decide) q0 (fun _ h9 => h9) rfl dX7_takeAway_1 ?_
  refine lv_iload_n hx hb dX7_takeAway_4 rfl (lv_at hl 1 rfl) ?_
  refine lv_iconst (v := (-1 : Int32)) hx hb dX7_takeAway_5 (by decide) ?_
  obtain ⟨hb1, hf⟩ := hf
  refine va_iast hx hb hK hP hD hS 1 0 rfl rfl hb1 dX7_takeAway_6 (fun H locs hP hD hS => ?_)
  have hP : va_P (dC, dI) vwCl [(h_t, .inr (4, [.ref h_t_items, .ref h_t_lanes, .ref h_t_sizes])), (h_t_lanes, .inl (cI, 4, .inl (upd t_lanes x1.toNatClampNeg (-1 : Int32)))), (h_t_sizes, .inl (cI, 4, .inl t_sizes))] H := hP
  have hD : va_D A [(h_t, .inr (4, [.ref h_t_items, .ref h_t_lanes, .ref h_t_sizes])), (h_t_lanes, .inl (cI, 4, .inl (upd t_lanes x1.toNatClampNeg (-1 : Int32)))), (h_t_sizes, .inl (cI, 4, .inl t_sizes))] := hD
  refine lv_aload_n hx hb dX7_takeAway_7 rfl (lv_at hl 0 rfl) ?_
  refine va_get (D := (dC, dI)) (ci := 4) (v := .ref h_t_sizes) (C := RX7) (T := TX7) (N := 3) hx hb hts hinX7 hown hK hP 0 rfl rfl 2 (by decide) q2 (fun _ h9 => h9) rfl dX7_takeAway_8 ?_
  refine lv_iload_n hx hb dX7_takeAway_11 rfl (lv_at hl 1 rfl) ?_
  obtain ⟨hb2, hf⟩ := hf
  refine va_iald hx hb hK hP 2 0 rfl rfl hb2 dX7_takeAway_12 ?_
  exact ret _ _ _ _ (t_sizes x1.toNatClampNeg) (upd t_lanes x1.toNatClampNeg (-1 : Int32)) hf hP hD hS dX7_takeAway_13
abbrev rm_X8_isFull : Room := { frames := 0, cells := 0, slots := 0, locals := 0 }
set_option maxHeartbeats 4000000 in
set_option maxRecDepth 100000 in
theorem c_X8_isFull (l : Launch) (dC : Nat → ClassId) (dI : Nat → Nat → Nat) (cI cJ cC cZ : ClassId) (h_t h_t_letters h_t_told : Nat) (sz : Nat) (t_length : Int32) (t_place : Int32) (t_lettersTold : Int32) (t_restTold : Int32) (Q : Int32 → Prop) (hw : p_X8_isFull t_length Q) : Met l yX8_isFull wsX8_isFull rm_X8_isFull (va_Pc [.ref h_t] (gz_B (dC, dI) (gz_T cI cJ cC cZ) [] sz [(h_t, .inr (5, [.ref h_t_letters, .int t_length, .int t_place, .ref h_t_told, .int t_lettersTold, .int t_restTold]))])) (va_Qi (fun (r : Int32) (u : Unit) => Q r) (fun u t => gz_E (dC, dI) (gz_T cI cJ cC cZ) (va_A [(h_t, .inr (5, [.ref h_t_letters, .int t_length, .int t_place, .ref h_t_told, .int t_lettersTold, .int t_restTold]))] sz) [(h_t, .inr (5, [.ref h_t_letters, .int t_length, .int t_place, .ref h_t_told, .int t_lettersTold, .int t_restTold]))] t) (va_A [(h_t, .inr (5, [.ref h_t_letters, .int t_length, .int t_place, .ref h_t_told, .int t_lettersTold, .int t_restTold]))] sz)) 0 0 (va_A [(h_t, .inr (5, [.ref h_t_letters, .int t_length, .int t_place, .ref h_t_told, .int t_lettersTold, .int t_restTold]))] sz) := by
  refine gz_mz (cc := cX8_isFull) (maxL := 1) (plainFor_of_name (by decide +kernel)) rfl (Nat.le_of_ble_eq_true rfl) ?_
  intro p e s m below meth c A QQ ls hx hb hml hown0 hts hK hN hA hP hD hS hl ret
  have hown : s.vm.findClass RX8 = some m.cls := hown0
  have hl : lv_has ls 1 [(0, .ref h_t)] := hl
  have q0 := hts (.fieldLink RX8 22 "DarkShadows$Tape" "length" "I") (List.mem_cons_of_mem _ (List.mem_append_left _ (List.mem_of_getElem? (i := 0) rfl)))
  have hinX8 : ∀ w ∈ wsX80, w ∈ wsX8_isFull := fun w h => List.mem_cons_of_mem _ (List.mem_append_right _ h)
  have hf := hw
  refine lv_aload_n hx hb dX8_isFull_0 rfl (lv_at hl 0 rfl) ?_
  refine va_get (D := (dC, dI)) (ci := 5) (v := .int t_length) (C := RX8) (T := TX8) (N := 6) hx hb hts hinX8 hown hK hP 0 rfl rfl 1 (by decide) q0 (fun _ h9 => h9) rfl dX8_isFull_1 ?_
  refine lv_sipush (v := (130 : Int32)) hx hb dX8_isFull_4 (by decide) ?_
  refine lv_icmp_lt (tgt := 14) hx hb dX8_isFull_7 (by decide) (fun hc1 => ?_) (fun hc1 => ?_)
  · have hf := hf.1 hc1
    refine lv_iconst (v := (0 : Int32)) hx hb dX8_isFull_14 (by decide) ?_
    exact ret _ _ _ _ (0 : Int32) () rfl hf hP hD hS dX8_isFull_15
  · have hf := hf.2 hc1
    refine lv_iconst (v := (1 : Int32)) hx hb dX8_isFull_10 (by decide) ?_
    refine lv_goto (tgt := 15) hx hb dX8_isFull_11 (by decide) ?_
    exact ret _ _ _ _ (1 : Int32) () rfl hf hP hD hS dX8_isFull_15
abbrev rm_X8_append : Room := { frames := 0, cells := 0, slots := 0, locals := 0 }
set_option maxHeartbeats 4000000 in
set_option maxRecDepth 100000 in
theorem c_X8_append (l : Launch) (dC : Nat → ClassId) (dI : Nat → Nat → Nat) (cI cJ cC cZ : ClassId) (h_t h_t_letters h_t_told : Nat) (sz : Nat) (t_length : Int32) (t_place : Int32) (t_lettersTold : Int32) (t_restTold : Int32) (t_letters : Nat → Int32) (x1 : Int32) (Q : Int32 → (Nat → Int32) → Prop) (hw : p_X8_append t_length t_letters x1 Q) : Met l yX8_append wsX8_append rm_X8_append (va_Pc [.ref h_t, .int x1] (gz_B (dC, dI) (gz_T cI cJ cC cZ) [] sz [(h_t, .inr (5, [.ref h_t_letters, .int t_length, .int t_place, .ref h_t_told, .int t_lettersTold, .int t_restTold])), (h_t_letters, .inl (cC, 130, .inl t_letters))])) (va_Qv (fun (u : Int32 × (Nat → Int32)) => Q u.1 u.2) (fun u t => gz_E (dC, dI) (gz_T cI cJ cC cZ) (va_A [(h_t, .inr (5, [.ref h_t_letters, .int t_length, .int t_place, .ref h_t_told, .int t_lettersTold, .int t_restTold])), (h_t_letters, .inl (cC, 130, .inl t_letters))] sz) [(h_t, .inr (5, [.ref h_t_letters, .int u.1, .int t_place, .ref h_t_told, .int t_lettersTold, .int t_restTold])), (h_t_letters, .inl (cC, 130, .inl u.2))] t) (va_A [(h_t, .inr (5, [.ref h_t_letters, .int t_length, .int t_place, .ref h_t_told, .int t_lettersTold, .int t_restTold])), (h_t_letters, .inl (cC, 130, .inl t_letters))] sz)) 0 0 (va_A [(h_t, .inr (5, [.ref h_t_letters, .int t_length, .int t_place, .ref h_t_told, .int t_lettersTold, .int t_restTold])), (h_t_letters, .inl (cC, 130, .inl t_letters))] sz) := by
  refine gz_mv (cc := cX8_append) (maxL := 2) (plainFor_of_name (by decide +kernel)) rfl (Nat.le_of_ble_eq_true rfl) ?_
  intro p e s m below meth c A QQ ls hx hb hml hown0 hts hK hN hA hP hD hS hl ret
  have hown : s.vm.findClass RX8 = some m.cls := hown0
  have hl : lv_has ls 2 [(0, .ref h_t), (1, .int x1)] := hl
  have q0 := hts (.fieldLink RX8 11 "DarkShadows$Tape" "letters" "[C") (List.mem_cons_of_mem _ (List.mem_append_left _ (List.mem_of_getElem? (i := 0) rfl)))
  have hinX8 : ∀ w ∈ wsX80, w ∈ wsX8_append := fun w h => List.mem_cons_of_mem _ (List.mem_append_right _ h)
  have q2 := hts (.fieldLink RX8 22 "DarkShadows$Tape" "length" "I") (List.mem_cons_of_mem _ (List.mem_append_left _ (List.mem_of_getElem? (i := 1) rfl)))
  have hf := hw
  refine lv_aload_n hx hb dX8_append_0 rfl (lv_at hl 0 rfl) ?_
  refine va_get (D := (dC, dI)) (ci := 5) (v := .ref h_t_letters) (C := RX8) (T := TX8) (N := 6) hx hb hts hinX8 hown hK hP 0 rfl rfl 0 (by decide) q0 (fun _ h9 => h9) rfl dX8_append_1 ?_
  refine lv_aload_n hx hb dX8_append_4 rfl (lv_at hl 0 rfl) ?_
  refine va_get (D := (dC, dI)) (ci := 5) (v := .int t_length) (C := RX8) (T := TX8) (N := 6) hx hb hts hinX8 hown hK hP 0 rfl rfl 1 (by decide) q2 (fun _ h9 => h9) rfl dX8_append_5 ?_
  refine lv_iload_n hx hb dX8_append_8 rfl (lv_at hl 1 rfl) ?_
  obtain ⟨hb1, hf⟩ := hf
  refine va_cast hx hb hK hP hD hS 1 2 rfl rfl hb1 dX8_append_9 (fun H locs hP hD hS => ?_)
  have hP : va_P (dC, dI) vwCl [(h_t, .inr (5, [.ref h_t_letters, .int t_length, .int t_place, .ref h_t_told, .int t_lettersTold, .int t_restTold])), (h_t_letters, .inl (cC, 130, .inl (upd t_letters t_length.toNatClampNeg (vp_nar .char x1))))] H := hP
  have hD : va_D A [(h_t, .inr (5, [.ref h_t_letters, .int t_length, .int t_place, .ref h_t_told, .int t_lettersTold, .int t_restTold])), (h_t_letters, .inl (cC, 130, .inl (upd t_letters t_length.toNatClampNeg (vp_nar .char x1))))] := hD
  refine lv_aload_n hx hb dX8_append_10 rfl (lv_at hl 0 rfl) ?_
  refine lv_dup hx hb dX8_append_11 rfl ?_
  refine va_get (D := (dC, dI)) (ci := 5) (v := .int t_length) (C := RX8) (T := TX8) (N := 6) hx hb hts hinX8 hown hK hP 0 rfl rfl 1 (by decide) q2 (fun _ h9 => h9) rfl dX8_append_12 ?_
  refine lv_iconst (v := (1 : Int32)) hx hb dX8_append_15 (by decide) ?_
  refine lv_iadd hx hb dX8_append_16 ?_
  refine va_put (D := (dC, dI)) (ci := 5) (v := .int (t_length + (1 : Int32))) (ty := .int) (C := RX8) (T := TX8) (N := 6) hx hb hts hinX8 tyX8 tyX8_ok nmX8 hown hK hP hD hS 0 rfl rfl 1 (by decide) q2 (fun _ h9 => h9) rfl (by decide +kernel) rfl rfl (Nat.le_of_ble_eq_true rfl) dX8_append_17 (fun H locs hP hD hS => ?_)
  have hP : va_P (dC, dI) vwCl [(h_t, .inr (5, [.ref h_t_letters, .int (t_length + (1 : Int32)), .int t_place, .ref h_t_told, .int t_lettersTold, .int t_restTold])), (h_t_letters, .inl (cC, 130, .inl (upd t_letters t_length.toNatClampNeg (vp_nar .char x1))))] H := hP
  have hD : va_D A [(h_t, .inr (5, [.ref h_t_letters, .int (t_length + (1 : Int32)), .int t_place, .ref h_t_told, .int t_lettersTold, .int t_restTold])), (h_t_letters, .inl (cC, 130, .inl (upd t_letters t_length.toNatClampNeg (vp_nar .char x1))))] := hD
  exact ret _ _ _ _ ((t_length + (1 : Int32)), (upd t_letters t_length.toNatClampNeg (vp_nar .char x1))) hf hP hD hS dX8_append_20
abbrev rm_X8_next : Room := { frames := 0, cells := 0, slots := 0, locals := 0 }
set_option maxHeartbeats 4000000 in
set_option maxRecDepth 100000 in
theorem c_X8_next (l : Launch) (dC : Nat → ClassId) (dI : Nat → Nat → Nat) (cI cJ cC cZ : ClassId) (h_t h_t_letters h_t_told : Nat) (sz : Nat) (t_length : Int32) (t_place : Int32) (t_lettersTold : Int32) (t_restTold : Int32) (t_letters : Nat → Int32) (Q : Int32 → Int32 → Prop) (hw : p_X8_next t_length t_place t_letters Q) : Met l yX8_next wsX8_next rm_X8_next (va_Pc [.ref h_t] (gz_B (dC, dI) (gz_T cI cJ cC cZ) [] sz [(h_t, .inr (5, [.ref h_t_letters, .int t_length, .int t_place, .ref h_t_told, .int t_lettersTold, .int t_restTold])), (h_t_letters, .inl (cC, 130, .inl t_letters))])) (va_Qi (fun (r : Int32) (u : Int32) => Q r u) (fun u t => gz_E (dC, dI) (gz_T cI cJ cC cZ) (va_A [(h_t, .inr (5, [.ref h_t_letters, .int t_length, .int t_place, .ref h_t_told, .int t_lettersTold, .int t_restTold])), (h_t_letters, .inl (cC, 130, .inl t_letters))] sz) [(h_t, .inr (5, [.ref h_t_letters, .int t_length, .int u, .ref h_t_told, .int t_lettersTold, .int t_restTold])), (h_t_letters, .inl (cC, 130, .inl t_letters))] t) (va_A [(h_t, .inr (5, [.ref h_t_letters, .int t_length, .int t_place, .ref h_t_told, .int t_lettersTold, .int t_restTold])), (h_t_letters, .inl (cC, 130, .inl t_letters))] sz)) 0 0 (va_A [(h_t, .inr (5, [.ref h_t_letters, .int t_length, .int t_place, .ref h_t_told, .int t_lettersTold, .int t_restTold])), (h_t_letters, .inl (cC, 130, .inl t_letters))] sz) := by
  refine gz_mi (cc := cX8_next) (maxL := 1) (plainFor_of_name (by decide +kernel)) rfl (Nat.le_of_ble_eq_true rfl) ?_
  intro p e s m below meth c A QQ ls hx hb hml hown0 hts hK hN hA hP hD hS hl ret
  have hown : s.vm.findClass RX8 = some m.cls := hown0
  have hl : lv_has ls 1 [(0, .ref h_t)] := hl
  have q0 := hts (.fieldLink RX8 26 "DarkShadows$Tape" "place" "I") (List.mem_cons_of_mem _ (List.mem_append_left _ (List.mem_of_getElem? (i := 0) rfl)))
  have hinX8 : ∀ w ∈ wsX80, w ∈ wsX8_next := fun w h => List.mem_cons_of_mem _ (List.mem_append_right _ h)
  have q2 := hts (.fieldLink RX8 22 "DarkShadows$Tape" "length" "I") (List.mem_cons_of_mem _ (List.mem_append_left _ (List.mem_of_getElem? (i := 1) rfl)))
  have q3 := hts (.fieldLink RX8 11 "DarkShadows$Tape" "letters" "[C") (List.mem_cons_of_mem _ (List.mem_append_left _ (List.mem_of_getElem? (i := 2) rfl)))
  have L38 : ∀ (t_place : Int32) (H : Heap) (locs : List Loc) (ls : Array Slot), p_X8_next_38 t_length t_place t_letters Q → va_P (dC, dI) vwCl [(h_t, .inr (5, [.ref h_t_letters, .int t_length, .int t_place, .ref h_t_told, .int t_lettersTold, .int t_restTold])), (h_t_letters, .inl (cC, 130, .inl t_letters))] H → va_D A [(h_t, .inr (5, [.ref h_t_letters, .int t_length, .int t_place, .ref h_t_told, .int t_lettersTold, .int t_restTold])), (h_t_letters, .inl (cC, 130, .inl t_letters))] → va_S A s.heap H locs → lv_has ls 1 [(0, .ref h_t)] → W p l e rm_X8_next s m [.ref h_t].toArray below meth c H locs 0 0 QQ (F0 m 38 ls []) := by
    intro t_place H locs ls hf hP hD hS hl
    refine lv_aload_n hx hb dX8_next_38 rfl (lv_at hl 0 rfl) ?_
    refine va_get (D := (dC, dI)) (ci := 5) (v := .int t_place) (C := RX8) (T := TX8) (N := 6) hx hb hts hinX8 hown hK hP 0 rfl rfl 2 (by decide) q0 (fun _ h9 => h9) rfl dX8_next_39 ?_
    refine lv_aload_n hx hb dX8_next_42 rfl (lv_at hl 0 rfl) ?_
    refine va_get (D := (dC, dI)) (ci := 5) (v := .int t_length) (C := RX8) (T := TX8) (N := 6) hx hb hts hinX8 hown hK hP 0 rfl rfl 1 (by decide) q2 (fun _ h9 => h9) rfl dX8_next_43 ?_
    refine lv_icmp_ge (tgt := 61) hx hb dX8_next_46 (by decide) (fun hc2 => ?_) (fun hc2 => ?_)
    · have hf := hf.1 hc2
      refine lv_iconst (v := (-1 : Int32)) hx hb dX8_next_61 (by decide) ?_
      exact ret _ _ _ _ (-1 : Int32) t_place hf hP hD hS dX8_next_62
    · have hf := hf.2 hc2
      refine lv_aload_n hx hb dX8_next_49 rfl (lv_at hl 0 rfl) ?_
      refine va_get (D := (dC, dI)) (ci := 5) (v := .ref h_t_letters) (C := RX8) (T := TX8) (N := 6) hx hb hts hinX8 hown hK hP 0 rfl rfl 0 (by decide) q3 (fun _ h9 => h9) rfl dX8_next_50 ?_
      refine lv_aload_n hx hb dX8_next_53 rfl (lv_at hl 0 rfl) ?_
      refine va_get (D := (dC, dI)) (ci := 5) (v := .int t_place) (C := RX8) (T := TX8) (N := 6) hx hb hts hinX8 hown hK hP 0 rfl rfl 2 (by decide) q0 (fun _ h9 => h9) rfl dX8_next_54 ?_
      obtain ⟨hb1, hf⟩ := hf
      refine va_cald hx hb hK hP 1 2 rfl rfl hb1 dX8_next_57 ?_
      refine lv_goto (tgt := 62) hx hb dX8_next_58 (by decide) ?_
      exact ret _ _ _ _ (t_letters t_place.toNatClampNeg) t_place hf hP hD hS dX8_next_62
  have L0 : ∀ (n : Nat) (t_place : Int32) (H : Heap) (locs : List Loc) (ls : Array Slot), gi1 (p_X8_next_0 t_length t_letters Q) n t_place → va_P (dC, dI) vwCl [(h_t, .inr (5, [.ref h_t_letters, .int t_length, .int t_place, .ref h_t_told, .int t_lettersTold, .int t_restTold])), (h_t_letters, .inl (cC, 130, .inl t_letters))] H → va_D A [(h_t, .inr (5, [.ref h_t_letters, .int t_length, .int t_place, .ref h_t_told, .int t_lettersTold, .int t_restTold])), (h_t_letters, .inl (cC, 130, .inl t_letters))] → va_S A s.heap H locs → lv_has ls 1 [(0, .ref h_t)] → W p l e rm_X8_next s m [.ref h_t].toArray below meth c H locs 0 0 QQ (F0 m 0 ls []) := by
    intro  n
    induction n with
    | zero => intro t_place H locs ls hf; exact False.elim hf
    | succ n ih0 =>
      generalize hK0 : gi1 (p_X8_next_0 t_length t_letters Q) n = K0 at ih0
      intro t_place H locs ls hf hP hD hS hl
      have hf : p_X8_next_0 t_length t_letters Q (gi1 (p_X8_next_0 t_length t_letters Q) n) t_place := hf
      rw [hK0] at hf
      refine lv_aload_n hx hb dX8_next_0 rfl (lv_at hl 0 rfl) ?_
      refine va_get (D := (dC, dI)) (ci := 5) (v := .int t_place) (C := RX8) (T := TX8) (N := 6) hx hb hts hinX8 hown hK hP 0 rfl rfl 2 (by decide) q0 (fun _ h9 => h9) rfl dX8_next_1 ?_
      refine lv_aload_n hx hb dX8_next_4 rfl (lv_at hl 0 rfl) ?_
      refine va_get (D := (dC, dI)) (ci := 5) (v := .int t_length) (C := RX8) (T := TX8) (N := 6) hx hb hts hinX8 hown hK hP 0 rfl rfl 1 (by decide) q2 (fun _ h9 => h9) rfl dX8_next_5 ?_
      refine lv_icmp_ge (tgt := 38) hx hb dX8_next_8 (by decide) (fun hc5 => ?_) (fun hc5 => ?_)
      · have hf := hf.1 hc5
        exact L38 t_place _ _ _ hf hP hD hS hl
      · have hf := hf.2 hc5
        refine lv_aload_n hx hb dX8_next_11 rfl (lv_at hl 0 rfl) ?_
        refine va_get (D := (dC, dI)) (ci := 5) (v := .ref h_t_letters) (C := RX8) (T := TX8) (N := 6) hx hb hts hinX8 hown hK hP 0 rfl rfl 0 (by decide) q3 (fun _ h9 => h9) rfl dX8_next_12 ?_
        refine lv_aload_n hx hb dX8_next_15 rfl (lv_at hl 0 rfl) ?_
        refine va_get (D := (dC, dI)) (ci := 5) (v := .int t_place) (C := RX8) (T := TX8) (N := 6) hx hb hts hinX8 hown hK hP 0 rfl rfl 2 (by decide) q0 (fun _ h9 => h9) rfl dX8_next_16 ?_
        obtain ⟨hb3, hf⟩ := hf
        refine va_cald hx hb hK hP 1 2 rfl rfl hb3 dX8_next_19 ?_
        refine lv_bipush (v := (32 : Int32)) hx hb dX8_next_20 (by decide) ?_
        refine lv_icmp_ne (tgt := 38) hx hb dX8_next_22 (by decide) (fun hc4 => ?_) (fun hc4 => ?_)
        · have hf := hf.2 hc4
          exact L38 t_place _ _ _ hf hP hD hS hl
        · have hf := hf.1 hc4
          refine lv_aload_n hx hb dX8_next_25 rfl (lv_at hl 0 rfl) ?_
          refine lv_dup hx hb dX8_next_26 rfl ?_
          refine va_get (D := (dC, dI)) (ci := 5) (v := .int t_place) (C := RX8) (T := TX8) (N := 6) hx hb hts hinX8 hown hK hP 0 rfl rfl 2 (by decide) q0 (fun _ h9 => h9) rfl dX8_next_27 ?_
          refine lv_iconst (v := (1 : Int32)) hx hb dX8_next_30 (by decide) ?_
          refine lv_iadd hx hb dX8_next_31 ?_
          refine va_put (D := (dC, dI)) (ci := 5) (v := .int (t_place + (1 : Int32))) (ty := .int) (C := RX8) (T := TX8) (N := 6) hx hb hts hinX8 tyX8 tyX8_ok nmX8 hown hK hP hD hS 0 rfl rfl 2 (by decide) q0 (fun _ h9 => h9) rfl (by decide +kernel) rfl rfl (Nat.le_of_ble_eq_true rfl) dX8_next_32 (fun H locs hP hD hS => ?_)
          have hP : va_P (dC, dI) vwCl [(h_t, .inr (5, [.ref h_t_letters, .int t_length, .int (t_place + (1 : Int32)), .ref h_t_told, .int t_lettersTold, .int t_restTold])), (h_t_letters, .inl (cC, 130, .inl t_letters))] H := hP
          have hD : va_D A [(h_t, .inr (5, [.ref h_t_letters, .int t_length, .int (t_place + (1 : Int32)), .ref h_t_told, .int t_lettersTold, .int t_restTold])), (h_t_letters, .inl (cC, 130, .inl t_letters))] := hD
          refine lv_goto (tgt := 0) hx hb dX8_next_35 (by decide) ?_
          exact ih0 (t_place + (1 : Int32)) _ _ _ hf hP hD hS hl
  have hf := hw
  obtain ⟨n, hf⟩ := hf
  exact L0  n t_place _ _ _ hf hP hD hS hl
abbrev rm_X10_outside : Room := { frames := 0, cells := 0, slots := 0, locals := 0 }
set_option maxHeartbeats 4000000 in
set_option maxRecDepth 100000 in
theorem c_X10_outside (l : Launch) (dC : Nat → ClassId) (dI : Nat → Nat → Nat) (cI cJ cC cZ : ClassId) (sz : Nat) (x0 : Int32) (x1 : Int32) (x2 : Int32) (Q : Int32 → Prop) (hw : p_X10_outside x0 x1 x2 Q) : Met l yX10_outside wsX10_outside rm_X10_outside (va_Pc [.int x0, .int x1, .int x2] (gz_B (dC, dI) (gz_T cI cJ cC cZ) [] sz [])) (va_Qi (fun (r : Int32) (u : Unit) => Q r) (fun u t => gz_E (dC, dI) (gz_T cI cJ cC cZ) (va_A [] sz) [] t) (va_A [] sz)) 0 0 (va_A [] sz) := by
  refine gz_mz (cc := cX10_outside) (maxL := 3) (plainFor_of_name (by decide +kernel)) rfl (Nat.le_of_ble_eq_true rfl) ?_
  intro p e s m below meth c A QQ ls hx hb hml hown0 hts hK hN hA hP hD hS hl ret
  have hown : s.vm.findClass RX10 = some m.cls := hown0
  have hl : lv_has ls 3 [(0, .int x0), (1, .int x1), (2, .int x2)] := hl
  have hf := hw
  refine lv_iload_n hx hb dX10_outside_0 rfl (lv_at hl 0 rfl) ?_
  refine lv_iload_n hx hb dX10_outside_1 rfl (lv_at hl 1 rfl) ?_
  refine lv_icmp_lt (tgt := 10) hx hb dX10_outside_2 (by decide) (fun hc2 => ?_) (fun hc2 => ?_)
  · have hf := hf.1 hc2
    refine lv_iconst (v := (1 : Int32)) hx hb dX10_outside_10 (by decide) ?_
    refine lv_goto (tgt := 15) hx hb dX10_outside_11 (by decide) ?_
    exact ret _ _ _ _ (1 : Int32) () rfl hf hP hD hS dX10_outside_15
  · have hf := hf.2 hc2
    refine lv_iload_n hx hb dX10_outside_5 rfl (lv_at hl 0 rfl) ?_
    refine lv_iload_n hx hb dX10_outside_6 rfl (lv_at hl 2 rfl) ?_
    refine lv_icmp_le (tgt := 14) hx hb dX10_outside_7 (by decide) (fun hc1 => ?_) (fun hc1 => ?_)
    · have hf := hf.1 hc1
      refine lv_iconst (v := (0 : Int32)) hx hb dX10_outside_14 (by decide) ?_
      exact ret _ _ _ _ (0 : Int32) () rfl hf hP hD hS dX10_outside_15
    · have hf := hf.2 hc1
      refine lv_iconst (v := (1 : Int32)) hx hb dX10_outside_10 (by decide) ?_
      refine lv_goto (tgt := 15) hx hb dX10_outside_11 (by decide) ?_
      exact ret _ _ _ _ (1 : Int32) () rfl hf hP hD hS dX10_outside_15
abbrev rm_X9_setMost : Room := { frames := 0, cells := 0, slots := 0, locals := 0 }
set_option maxHeartbeats 4000000 in
set_option maxRecDepth 100000 in
theorem c_X9_setMost (l : Launch) (dC : Nat → ClassId) (dI : Nat → Nat → Nat) (cI cJ cC cZ : ClassId) (h_t h_t_cells : Nat) (sz : Nat) (t_size : Int32) (t_most : Int32) (t_draw : Int32) (t_changes : Int32) (x1 : Int32) (Q : Int32 → Int32 → Prop) (hw : p_X9_setMost t_most t_changes x1 Q) : Met l yX9_setMost wsX9_setMost rm_X9_setMost (va_Pc [.ref h_t, .int x1] (gz_B (dC, dI) (gz_T cI cJ cC cZ) [] sz [(h_t, .inr (6, [.ref h_t_cells, .int t_size, .int t_most, .int t_draw, .int t_changes]))])) (va_Qv (fun (u : Int32 × Int32) => Q u.1 u.2) (fun u t => gz_E (dC, dI) (gz_T cI cJ cC cZ) (va_A [(h_t, .inr (6, [.ref h_t_cells, .int t_size, .int t_most, .int t_draw, .int t_changes]))] sz) [(h_t, .inr (6, [.ref h_t_cells, .int t_size, .int u.1, .int t_draw, .int u.2]))] t) (va_A [(h_t, .inr (6, [.ref h_t_cells, .int t_size, .int t_most, .int t_draw, .int t_changes]))] sz)) 0 0 (va_A [(h_t, .inr (6, [.ref h_t_cells, .int t_size, .int t_most, .int t_draw, .int t_changes]))] sz) := by
  refine gz_mv (cc := cX9_setMost) (maxL := 2) (plainFor_of_name (by decide +kernel)) rfl (Nat.le_of_ble_eq_true rfl) ?_
  intro p e s m below meth c A QQ ls hx hb hml hown0 hts hK hN hA hP hD hS hl ret
  have hown : s.vm.findClass RX9 = some m.cls := hown0
  have hl : lv_has ls 2 [(0, .ref h_t), (1, .int x1)] := hl
  have q0 := hts (.fieldLink RX9 15 "DarkShadows$Told" "most" "I") (List.mem_cons_of_mem _ (List.mem_append_left _ (List.mem_of_getElem? (i := 0) rfl)))
  have q1 := hts (.fieldLink RX9 27 "DarkShadows$Told" "changes" "I") (List.mem_cons_of_mem _ (List.mem_append_left _ (List.mem_of_getElem? (i := 1) rfl)))
  have hinX9 : ∀ w ∈ wsX90, w ∈ wsX9_setMost := fun w h => List.mem_cons_of_mem _ (List.mem_append_right _ h)
  have hf := hw
  refine lv_aload_n hx hb dX9_setMost_0 rfl (lv_at hl 0 rfl) ?_
  refine lv_iload_n hx hb dX9_setMost_1 rfl (lv_at hl 1 rfl) ?_
  refine va_put (D := (dC, dI)) (ci := 6) (v := .int x1) (ty := .int) (C := RX9) (T := TX9) (N := 5) hx hb hts hinX9 tyX9 tyX9_ok nmX9 hown hK hP hD hS 0 rfl rfl 2 (by decide) q0 (fun _ h9 => h9) rfl (by decide +kernel) rfl rfl (Nat.le_of_ble_eq_true rfl) dX9_setMost_2 (fun H locs hP hD hS => ?_)
  have hP : va_P (dC, dI) vwCl [(h_t, .inr (6, [.ref h_t_cells, .int t_size, .int x1, .int t_draw, .int t_changes]))] H := hP
  have hD : va_D A [(h_t, .inr (6, [.ref h_t_cells, .int t_size, .int x1, .int t_draw, .int t_changes]))] := hD
  refine lv_aload_n hx hb dX9_setMost_5 rfl (lv_at hl 0 rfl) ?_
  refine lv_dup hx hb dX9_setMost_6 rfl ?_
  refine va_get (D := (dC, dI)) (ci := 6) (v := .int t_changes) (C := RX9) (T := TX9) (N := 5) hx hb hts hinX9 hown hK hP 0 rfl rfl 4 (by decide) q1 (fun _ h9 => h9) rfl dX9_setMost_7 ?_
  refine lv_iconst (v := (1 : Int32)) hx hb dX9_setMost_10 (by decide) ?_
  refine lv_iadd hx hb dX9_setMost_11 ?_
  refine va_put (D := (dC, dI)) (ci := 6) (v := .int (t_changes + (1 : Int32))) (ty := .int) (C := RX9) (T := TX9) (N := 5) hx hb hts hinX9 tyX9 tyX9_ok nmX9 hown hK hP hD hS 0 rfl rfl 4 (by decide) q1 (fun _ h9 => h9) rfl (by decide +kernel) rfl rfl (Nat.le_of_ble_eq_true rfl) dX9_setMost_12 (fun H locs hP hD hS => ?_)
  have hP : va_P (dC, dI) vwCl [(h_t, .inr (6, [.ref h_t_cells, .int t_size, .int x1, .int t_draw, .int (t_changes + (1 : Int32))]))] H := hP
  have hD : va_D A [(h_t, .inr (6, [.ref h_t_cells, .int t_size, .int x1, .int t_draw, .int (t_changes + (1 : Int32))]))] := hD
  exact ret _ _ _ _ (x1, (t_changes + (1 : Int32))) hf hP hD hS dX9_setMost_15
abbrev rm_X9_setCell : Room := { frames := 0, cells := 0, slots := 0, locals := 0 }
set_option maxHeartbeats 4000000 in
set_option maxRecDepth 100000 in
theorem c_X9_setCell (l : Launch) (dC : Nat → ClassId) (dI : Nat → Nat → Nat) (cI cJ cC cZ : ClassId) (h_t h_t_cells : Nat) (sz : Nat) (t_size : Int32) (t_most : Int32) (t_draw : Int32) (t_changes : Int32) (t_cells : Nat → Int32) (x1 : Int32) (x2 : Int32) (x3 : Int32) (Q : Int32 → (Nat → Int32) → Prop) (hw : p_X9_setCell t_changes t_cells x1 x2 x3 Q) : Met l yX9_setCell wsX9_setCell rm_X9_setCell (va_Pc [.ref h_t, .int x1, .int x2, .int x3] (gz_B (dC, dI) (gz_T cI cJ cC cZ) [] sz [(h_t, .inr (6, [.ref h_t_cells, .int t_size, .int t_most, .int t_draw, .int t_changes])), (h_t_cells, .inl (cI, 48, .inl t_cells))])) (va_Qv (fun (u : Int32 × (Nat → Int32)) => Q u.1 u.2) (fun u t => gz_E (dC, dI) (gz_T cI cJ cC cZ) (va_A [(h_t, .inr (6, [.ref h_t_cells, .int t_size, .int t_most, .int t_draw, .int t_changes])), (h_t_cells, .inl (cI, 48, .inl t_cells))] sz) [(h_t, .inr (6, [.ref h_t_cells, .int t_size, .int t_most, .int t_draw, .int u.1])), (h_t_cells, .inl (cI, 48, .inl u.2))] t) (va_A [(h_t, .inr (6, [.ref h_t_cells, .int t_size, .int t_most, .int t_draw, .int t_changes])), (h_t_cells, .inl (cI, 48, .inl t_cells))] sz)) 0 0 (va_A [(h_t, .inr (6, [.ref h_t_cells, .int t_size, .int t_most, .int t_draw, .int t_changes])), (h_t_cells, .inl (cI, 48, .inl t_cells))] sz) := by
  refine gz_mv (cc := cX9_setCell) (maxL := 4) (plainFor_of_name (by decide +kernel)) rfl (Nat.le_of_ble_eq_true rfl) ?_
  intro p e s m below meth c A QQ ls hx hb hml hown0 hts hK hN hA hP hD hS hl ret
  have hown : s.vm.findClass RX9 = some m.cls := hown0
  have hl : lv_has ls 4 [(0, .ref h_t), (1, .int x1), (2, .int x2), (3, .int x3)] := hl
  have q0 := hts (.fieldLink RX9 11 "DarkShadows$Told" "cells" "[I") (List.mem_cons_of_mem _ (List.mem_append_left _ (List.mem_of_getElem? (i := 0) rfl)))
  have hinX9 : ∀ w ∈ wsX90, w ∈ wsX9_setCell := fun w h => List.mem_cons_of_mem _ (List.mem_append_right _ h)
  have q2 := hts (.fieldLink RX9 27 "DarkShadows$Told" "changes" "I") (List.mem_cons_of_mem _ (List.mem_append_left _ (List.mem_of_getElem? (i := 1) rfl)))
  have hf := hw
  refine lv_aload_n hx hb dX9_setCell_0 rfl (lv_at hl 0 rfl) ?_
  refine va_get (D := (dC, dI)) (ci := 6) (v := .ref h_t_cells) (C := RX9) (T := TX9) (N := 5) hx hb hts hinX9 hown hK hP 0 rfl rfl 0 (by decide) q0 (fun _ h9 => h9) rfl dX9_setCell_1 ?_
  refine lv_iload_n hx hb dX9_setCell_4 rfl (lv_at hl 1 rfl) ?_
  refine lv_bipush (v := (6 : Int32)) hx hb dX9_setCell_5 (by decide) ?_
  refine lv_imul hx hb dX9_setCell_7 ?_
  refine lv_iload_n hx hb dX9_setCell_8 rfl (lv_at hl 2 rfl) ?_
  refine lv_iadd hx hb dX9_setCell_9 ?_
  refine lv_iload_n hx hb dX9_setCell_10 rfl (lv_at hl 3 rfl) ?_
  obtain ⟨hb1, hf⟩ := hf
  refine va_iast hx hb hK hP hD hS 1 0 rfl rfl hb1 dX9_setCell_11 (fun H locs hP hD hS => ?_)
  have hP : va_P (dC, dI) vwCl [(h_t, .inr (6, [.ref h_t_cells, .int t_size, .int t_most, .int t_draw, .int t_changes])), (h_t_cells, .inl (cI, 48, .inl (upd t_cells ((x1 * (6 : Int32)) + x2).toNatClampNeg x3)))] H := hP
  have hD : va_D A [(h_t, .inr (6, [.ref h_t_cells, .int t_size, .int t_most, .int t_draw, .int t_changes])), (h_t_cells, .inl (cI, 48, .inl (upd t_cells ((x1 * (6 : Int32)) + x2).toNatClampNeg x3)))] := hD
  refine lv_aload_n hx hb dX9_setCell_12 rfl (lv_at hl 0 rfl) ?_
  refine lv_dup hx hb dX9_setCell_13 rfl ?_
  refine va_get (D := (dC, dI)) (ci := 6) (v := .int t_changes) (C := RX9) (T := TX9) (N := 5) hx hb hts hinX9 hown hK hP 0 rfl rfl 4 (by decide) q2 (fun _ h9 => h9) rfl dX9_setCell_14 ?_
  refine lv_iconst (v := (1 : Int32)) hx hb dX9_setCell_17 (by decide) ?_
  refine lv_iadd hx hb dX9_setCell_18 ?_
  refine va_put (D := (dC, dI)) (ci := 6) (v := .int (t_changes + (1 : Int32))) (ty := .int) (C := RX9) (T := TX9) (N := 5) hx hb hts hinX9 tyX9 tyX9_ok nmX9 hown hK hP hD hS 0 rfl rfl 4 (by decide) q2 (fun _ h9 => h9) rfl (by decide +kernel) rfl rfl (Nat.le_of_ble_eq_true rfl) dX9_setCell_19 (fun H locs hP hD hS => ?_)
  have hP : va_P (dC, dI) vwCl [(h_t, .inr (6, [.ref h_t_cells, .int t_size, .int t_most, .int t_draw, .int (t_changes + (1 : Int32))])), (h_t_cells, .inl (cI, 48, .inl (upd t_cells ((x1 * (6 : Int32)) + x2).toNatClampNeg x3)))] H := hP
  have hD : va_D A [(h_t, .inr (6, [.ref h_t_cells, .int t_size, .int t_most, .int t_draw, .int (t_changes + (1 : Int32))])), (h_t_cells, .inl (cI, 48, .inl (upd t_cells ((x1 * (6 : Int32)) + x2).toNatClampNeg x3)))] := hD
  exact ret _ _ _ _ ((t_changes + (1 : Int32)), (upd t_cells ((x1 * (6 : Int32)) + x2).toNatClampNeg x3)) hf hP hD hS dX9_setCell_22
abbrev rm_X8_readNumber : Room := { frames := 1, cells := 0, slots := 0, locals := 22 }
set_option maxHeartbeats 4000000 in
set_option maxRecDepth 100000 in
theorem c_X8_readNumber (l : Launch) (dC : Nat → ClassId) (dI : Nat → Nat → Nat) (cI cJ cC cZ : ClassId) (h_t h_t_letters h_t_told : Nat) (sz : Nat) (t_length : Int32) (t_place : Int32) (t_lettersTold : Int32) (t_restTold : Int32) (t_letters : Nat → Int32) (Q : Int32 → Int32 → Prop) (hw : p_X8_readNumber t_length t_place t_letters Q) : Met l yX8_readNumber wsX8_readNumber rm_X8_readNumber (va_Pc [.ref h_t] (gz_B (dC, dI) (gz_T cI cJ cC cZ) [(RX8, 36, yX10_outside, "DarkShadows")] sz [(h_t, .inr (5, [.ref h_t_letters, .int t_length, .int t_place, .ref h_t_told, .int t_lettersTold, .int t_restTold])), (h_t_letters, .inl (cC, 130, .inl t_letters))])) (va_Qi (fun (r : Int32) (u : Int32) => Q r u) (fun u t => gz_E (dC, dI) (gz_T cI cJ cC cZ) (va_A [(h_t, .inr (5, [.ref h_t_letters, .int t_length, .int t_place, .ref h_t_told, .int t_lettersTold, .int t_restTold])), (h_t_letters, .inl (cC, 130, .inl t_letters))] sz) [(h_t, .inr (5, [.ref h_t_letters, .int t_length, .int u, .ref h_t_told, .int t_lettersTold, .int t_restTold])), (h_t_letters, .inl (cC, 130, .inl t_letters))] t) (va_A [(h_t, .inr (5, [.ref h_t_letters, .int t_length, .int t_place, .ref h_t_told, .int t_lettersTold, .int t_restTold])), (h_t_letters, .inl (cC, 130, .inl t_letters))] sz)) 0 0 (va_A [(h_t, .inr (5, [.ref h_t_letters, .int t_length, .int t_place, .ref h_t_told, .int t_lettersTold, .int t_restTold])), (h_t_letters, .inl (cC, 130, .inl t_letters))] sz) := by
  refine gz_mi (cc := cX8_readNumber) (maxL := 3) (plainFor_of_name (by decide +kernel)) rfl (Nat.le_of_ble_eq_true rfl) ?_
  intro p e s m below meth c A QQ ls hx hb hml hown0 hts hK hN hA hP hD hS hl ret
  have hown : s.vm.findClass RX8 = some m.cls := hown0
  have hl : lv_has ls 3 [(0, .ref h_t)] := hl
  have q0 := hts (.initialized RX10) (List.mem_cons_of_mem _ (List.mem_append_left _ (List.mem_of_getElem? (i := 9) rfl)))
  have q1 := hts (.static yX10_outside) (List.mem_cons_of_mem _ (List.mem_append_left _ (List.mem_of_getElem? (i := 8) rfl)))
  have q2 := hts (.fieldLink RX8 26 "DarkShadows$Tape" "place" "I") (List.mem_cons_of_mem _ (List.mem_append_left _ (List.mem_of_getElem? (i := 0) rfl)))
  have hinX8 : ∀ w ∈ wsX80, w ∈ wsX8_readNumber := fun w h => List.mem_cons_of_mem _ (List.mem_append_right _ h)
  have q4 := hts (.fieldLink RX8 22 "DarkShadows$Tape" "length" "I") (List.mem_cons_of_mem _ (List.mem_append_left _ (List.mem_of_getElem? (i := 1) rfl)))
  have q5 := hts (.fieldLink RX8 11 "DarkShadows$Tape" "letters" "[C") (List.mem_cons_of_mem _ (List.mem_append_left _ (List.mem_of_getElem? (i := 2) rfl)))
  have L20 : ∀ (n : Nat) (x1 : Int32) (x2 : Int32) (t_place : Int32) (H : Heap) (locs : List Loc) (ls : Array Slot), gi3 (p_X8_readNumber_20 t_length t_letters Q) n x1 x2 t_place → va_P (dC, dI) vwCl [(h_t, .inr (5, [.ref h_t_letters, .int t_length, .int t_place, .ref h_t_told, .int t_lettersTold, .int t_restTold])), (h_t_letters, .inl (cC, 130, .inl t_letters))] H → va_D A [(h_t, .inr (5, [.ref h_t_letters, .int t_length, .int t_place, .ref h_t_told, .int t_lettersTold, .int t_restTold])), (h_t_letters, .inl (cC, 130, .inl t_letters))] → va_S A s.heap H locs → lv_has ls 3 [(0, .ref h_t), (1, .int x1), (2, .int x2)] → W p l e rm_X8_readNumber s m [.ref h_t].toArray below meth c H locs 0 0 QQ (F0 m 20 ls []) := by
    intro  n
    induction n with
    | zero => intro x1 x2 t_place H locs ls hf; exact False.elim hf
    | succ n ih20 =>
      generalize hK20 : gi3 (p_X8_readNumber_20 t_length t_letters Q) n = K20 at ih20
      intro x1 x2 t_place H locs ls hf hP hD hS hl
      have hf : p_X8_readNumber_20 t_length t_letters Q (gi3 (p_X8_readNumber_20 t_length t_letters Q) n) x1 x2 t_place := hf
      rw [hK20] at hf
      refine lv_iload_n hx hb dX8_readNumber_20 rfl (lv_at hl 2 rfl) ?_
      refine lv_iconst (v := (2 : Int32)) hx hb dX8_readNumber_21 (by decide) ?_
      refine lv_icmp_ge (tgt := 89) hx hb dX8_readNumber_22 (by decide) (fun hc10 => ?_) (fun hc10 => ?_)
      · have hf := hf.1 hc10
        refine lv_iload_n hx hb dX8_readNumber_89 rfl (lv_at hl 1 rfl) ?_
        exact ret _ _ _ _ x1 t_place hf hP hD hS dX8_readNumber_90
      · have hf := hf.2 hc10
        refine lv_aload_n hx hb dX8_readNumber_25 rfl (lv_at hl 0 rfl) ?_
        refine va_get (D := (dC, dI)) (ci := 5) (v := .int t_place) (C := RX8) (T := TX8) (N := 6) hx hb hts hinX8 hown hK hP 0 rfl rfl 2 (by decide) q2 (fun _ h9 => h9) rfl dX8_readNumber_26 ?_
        refine lv_aload_n hx hb dX8_readNumber_29 rfl (lv_at hl 0 rfl) ?_
        refine va_get (D := (dC, dI)) (ci := 5) (v := .int t_length) (C := RX8) (T := TX8) (N := 6) hx hb hts hinX8 hown hK hP 0 rfl rfl 1 (by decide) q4 (fun _ h9 => h9) rfl dX8_readNumber_30 ?_
        refine lv_icmp_ge (tgt := 89) hx hb dX8_readNumber_33 (by decide) (fun hc9 => ?_) (fun hc9 => ?_)
        · have hf := hf.1 hc9
          refine lv_iload_n hx hb dX8_readNumber_89 rfl (lv_at hl 1 rfl) ?_
          exact ret _ _ _ _ x1 t_place hf hP hD hS dX8_readNumber_90
        · have hf := hf.2 hc9
          refine lv_aload_n hx hb dX8_readNumber_36 rfl (lv_at hl 0 rfl) ?_
          refine va_get (D := (dC, dI)) (ci := 5) (v := .ref h_t_letters) (C := RX8) (T := TX8) (N := 6) hx hb hts hinX8 hown hK hP 0 rfl rfl 0 (by decide) q5 (fun _ h9 => h9) rfl dX8_readNumber_37 ?_
          refine lv_aload_n hx hb dX8_readNumber_40 rfl (lv_at hl 0 rfl) ?_
          refine va_get (D := (dC, dI)) (ci := 5) (v := .int t_place) (C := RX8) (T := TX8) (N := 6) hx hb hts hinX8 hown hK hP 0 rfl rfl 2 (by decide) q2 (fun _ h9 => h9) rfl dX8_readNumber_41 ?_
          obtain ⟨hb4, hf⟩ := hf
          refine va_cald hx hb hK hP 1 2 rfl rfl hb4 dX8_readNumber_44 ?_
          refine lv_bipush (v := (48 : Int32)) hx hb dX8_readNumber_45 (by decide) ?_
          refine lv_bipush (v := (57 : Int32)) hx hb dX8_readNumber_47 (by decide) ?_
          refine gz_i0 (va_runSN (As := [.int (t_letters t_place.toNatClampNeg), .int (48 : Int32), .int (57 : Int32)]) (rest := []) ⟨hx, hb, hml, hown, hts⟩ (c_X10_outside l dC dI cI cJ cC cZ H.size (t_letters t_place.toNatClampNeg) (48 : Int32) (57 : Int32) _ hf) ⟨va_cnB 3 hts gX8_readNumber_X10_outside_n36 rfl rfl rfl (hN.at 0 rfl) q0 (by decide +kernel) ⟨Nat.le_of_ble_eq_true rfl, Nat.le_of_ble_eq_true rfl⟩, q1, trivial⟩ ⟨gz_blind, gz_pre (gz_P_of hP (is := []) (wc := []) rfl) hK (hD.sub [] (by decide) rfl) gz_N0⟩ rfl rfl hl.1 rfl (lv_room (Nat.le_of_ble_eq_true rfl)) dX8_readNumber_49 ⟨Nat.le_refl _, Nat.le_refl _⟩) hP hD hS hA (fun r5 H locs hf hP hS => ?_)
          refine lv_if_ne (tgt := 89) hx hb dX8_readNumber_52 (by decide) (fun hc8 => ?_) (fun hc8 => ?_)
          · have hf := hf.2 hc8
            refine lv_iload_n hx hb dX8_readNumber_89 rfl (lv_at hl 1 rfl) ?_
            exact ret _ _ _ _ x1 t_place hf hP hD hS dX8_readNumber_90
          · have hf := hf.1 hc8
            refine lv_iload_n hx hb dX8_readNumber_55 rfl (lv_at hl 1 rfl) ?_
            refine lv_bipush (v := (10 : Int32)) hx hb dX8_readNumber_56 (by decide) ?_
            refine lv_imul hx hb dX8_readNumber_58 ?_
            refine lv_aload_n hx hb dX8_readNumber_59 rfl (lv_at hl 0 rfl) ?_
            refine va_get (D := (dC, dI)) (ci := 5) (v := .ref h_t_letters) (C := RX8) (T := TX8) (N := 6) hx hb hts hinX8 hown hK hP 0 rfl rfl 0 (by decide) q5 (fun _ h9 => h9) rfl dX8_readNumber_60 ?_
            refine lv_aload_n hx hb dX8_readNumber_63 rfl (lv_at hl 0 rfl) ?_
            refine va_get (D := (dC, dI)) (ci := 5) (v := .int t_place) (C := RX8) (T := TX8) (N := 6) hx hb hts hinX8 hown hK hP 0 rfl rfl 2 (by decide) q2 (fun _ h9 => h9) rfl dX8_readNumber_64 ?_
            obtain ⟨hb6, hf⟩ := hf
            refine va_cald hx hb hK hP 1 2 rfl rfl hb6 dX8_readNumber_67 ?_
            refine lv_iadd hx hb dX8_readNumber_68 ?_
            refine lv_bipush (v := (48 : Int32)) hx hb dX8_readNumber_69 (by decide) ?_
            refine lv_isub hx hb dX8_readNumber_71 ?_
            refine lv_topi (fun z7 ez7 => ?_)
            have hf := hf z7 ez7
            refine lv_istore_n (lv' := [(1, .int z7), (0, .ref h_t), (2, .int x2)]) hx hb dX8_readNumber_72 rfl hl (by decide) rfl (fun ls hl => ?_)
            refine lv_aload_n hx hb dX8_readNumber_73 rfl (lv_at hl 1 rfl) ?_
            refine lv_dup hx hb dX8_readNumber_74 rfl ?_
            refine va_get (D := (dC, dI)) (ci := 5) (v := .int t_place) (C := RX8) (T := TX8) (N := 6) hx hb hts hinX8 hown hK hP 0 rfl rfl 2 (by decide) q2 (fun _ h9 => h9) rfl dX8_readNumber_75 ?_
            refine lv_iconst (v := (1 : Int32)) hx hb dX8_readNumber_78 (by decide) ?_
            refine lv_iadd hx hb dX8_readNumber_79 ?_
            refine va_put (D := (dC, dI)) (ci := 5) (v := .int (t_place + (1 : Int32))) (ty := .int) (C := RX8) (T := TX8) (N := 6) hx hb hts hinX8 tyX8 tyX8_ok nmX8 hown hK hP hD hS 0 rfl rfl 2 (by decide) q2 (fun _ h9 => h9) rfl (by decide +kernel) rfl rfl (Nat.le_of_ble_eq_true rfl) dX8_readNumber_80 (fun H locs hP hD hS => ?_)
            have hP : va_P (dC, dI) vwCl [(h_t, .inr (5, [.ref h_t_letters, .int t_length, .int (t_place + (1 : Int32)), .ref h_t_told, .int t_lettersTold, .int t_restTold])), (h_t_letters, .inl (cC, 130, .inl t_letters))] H := hP
            have hD : va_D A [(h_t, .inr (5, [.ref h_t_letters, .int t_length, .int (t_place + (1 : Int32)), .ref h_t_told, .int t_lettersTold, .int t_restTold])), (h_t_letters, .inl (cC, 130, .inl t_letters))] := hD
            refine lv_iinc (v := (x2 + (1 : Int32))) (lv' := [(2, .int (x2 + (1 : Int32))), (1, .int z7), (0, .ref h_t)]) hx hb dX8_readNumber_83 hl (k := 2) rfl rfl (by decide) rfl (fun ls hl => ?_)
            refine lv_goto (tgt := 20) hx hb dX8_readNumber_86 (by decide) ?_
            exact ih20 z7 (x2 + (1 : Int32)) (t_place + (1 : Int32)) _ _ _ hf hP hD hS (lv_sub hl [2, 1, 0] rfl)
  have hf := hw
  refine lv_aload_n hx hb dX8_readNumber_0 rfl (lv_at hl 0 rfl) ?_
  refine gz_i (W1 := (fun u : Int32 => [(h_t, .inr (5, [.ref h_t_letters, .int t_length, .int u, .ref h_t_told, .int t_lettersTold, .int t_restTold])), (h_t_letters, .inl (cC, 130, .inl t_letters))])) (wn := (fun u : Int32 => [(h_t, .inr (5, [.ref h_t_letters, .int t_length, .int u, .ref h_t_told, .int t_lettersTold, .int t_restTold])), (h_t_letters, .inl (cC, 130, .inl t_letters))])) (wr := []) (va_runV (As := []) (rest := []) ⟨hx, hb, hml, hown, hts⟩ (c_X8_next l dC dI cI cJ cC cZ h_t h_t_letters h_t_told s.heap.size t_length t_place t_lettersTold t_restTold t_letters _ hf) (cwV 0 hts gX8_readNumber_X8_next rfl rfl rfl (by decide +kernel) ⟨Nat.le_of_ble_eq_true rfl, Nat.le_of_ble_eq_true rfl⟩) ⟨gz_blind, va_recv hK hP (ci := 5) (q0 := 0) rfl rfl, gz_pre (gz_P_of hP (is := [0, 1]) (wc := [(h_t, .inr (5, [.ref h_t_letters, .int t_length, .int t_place, .ref h_t_told, .int t_lettersTold, .int t_restTold])), (h_t_letters, .inl (cC, 130, .inl t_letters))]) rfl) hK (hD.sub [0, 1] (by decide) rfl) gz_N0⟩ rfl rfl hl.1 rfl (lv_room (Nat.le_of_ble_eq_true rfl)) dX8_readNumber_1 ⟨Nat.le_refl _, Nat.le_refl _⟩) hP hD hS hA [0, 1] [] [0, 1] rfl rfl (by decide) (by decide) (fun _ => rfl) (by decide) (fun r1 y2 H locs hf hP hD hS => ?_)
  have hP : va_P (dC, dI) vwCl [(h_t, .inr (5, [.ref h_t_letters, .int t_length, .int y2, .ref h_t_told, .int t_lettersTold, .int t_restTold])), (h_t_letters, .inl (cC, 130, .inl t_letters))] H := hP
  have hD : va_D A [(h_t, .inr (5, [.ref h_t_letters, .int t_length, .int y2, .ref h_t_told, .int t_lettersTold, .int t_restTold])), (h_t_letters, .inl (cC, 130, .inl t_letters))] := hD
  refine lv_bipush (v := (48 : Int32)) hx hb dX8_readNumber_4 (by decide) ?_
  refine lv_bipush (v := (57 : Int32)) hx hb dX8_readNumber_6 (by decide) ?_
  refine gz_i0 (va_runSN (As := [.int r1, .int (48 : Int32), .int (57 : Int32)]) (rest := []) ⟨hx, hb, hml, hown, hts⟩ (c_X10_outside l dC dI cI cJ cC cZ H.size r1 (48 : Int32) (57 : Int32) _ hf) ⟨va_cnB 3 hts gX8_readNumber_X10_outside_n36 rfl rfl rfl (hN.at 0 rfl) q0 (by decide +kernel) ⟨Nat.le_of_ble_eq_true rfl, Nat.le_of_ble_eq_true rfl⟩, q1, trivial⟩ ⟨gz_blind, gz_pre (gz_P_of hP (is := []) (wc := []) rfl) hK (hD.sub [] (by decide) rfl) gz_N0⟩ rfl rfl hl.1 rfl (lv_room (Nat.le_of_ble_eq_true rfl)) dX8_readNumber_8 ⟨Nat.le_refl _, Nat.le_refl _⟩) hP hD hS hA (fun r3 H locs hf hP hS => ?_)
  refine lv_if_eq (tgt := 16) hx hb dX8_readNumber_11 (by decide) (fun hc11 => ?_) (fun hc11 => ?_)
  · have hf := hf.1 hc11
    refine lv_iconst (v := (0 : Int32)) hx hb dX8_readNumber_16 (by decide) ?_
    refine lv_istore_n (lv' := [(1, .int (0 : Int32)), (0, .ref h_t)]) hx hb dX8_readNumber_17 rfl hl (by decide) rfl (fun ls hl => ?_)
    refine lv_iconst (v := (0 : Int32)) hx hb dX8_readNumber_18 (by decide) ?_
    refine lv_istore_n (lv' := [(2, .int (0 : Int32)), (1, .int (0 : Int32)), (0, .ref h_t)]) hx hb dX8_readNumber_19 rfl hl (by decide) rfl (fun ls hl => ?_)
    obtain ⟨n, hf⟩ := hf
    exact L20  n (0 : Int32) (0 : Int32) y2 _ _ _ hf hP hD hS (lv_sub hl [2, 1, 0] rfl)
  · have hf := hf.2 hc11
    refine lv_iconst (v := (-1 : Int32)) hx hb dX8_readNumber_14 (by decide) ?_
    exact ret _ _ _ _ (-1 : Int32) y2 hf hP hD hS dX8_readNumber_15
abbrev rm_X8_putTerm : Room := { frames := 1, cells := 0, slots := 0, locals := 23 }
set_option maxHeartbeats 4000000 in
set_option maxRecDepth 100000 in
theorem c_X8_putTerm (l : Launch) (dC : Nat → ClassId) (dI : Nat → Nat → Nat) (cI cJ cC cZ : ClassId) (h_t h_t_letters h_t_told h_t_told_cells : Nat) (sz : Nat) (t_length : Int32) (t_place : Int32) (t_lettersTold : Int32) (t_restTold : Int32) (t_letters : Nat → Int32) (t_told_size : Int32) (t_told_most : Int32) (t_told_draw : Int32) (t_told_changes : Int32) (t_told_cells : Nat → Int32) (x1 : Int32) (x2 : Int32) (Q : Int32 → Int32 → Int32 → Int32 → Int32 → (Nat → Int32) → Prop) (hw : p_X8_putTerm t_length t_place t_lettersTold t_restTold t_letters t_told_size t_told_changes t_told_cells x1 x2 Q) : Met l yX8_putTerm wsX8_putTerm rm_X8_putTerm (va_Pc [.ref h_t, .int x1, .int x2] (gz_B (dC, dI) (gz_T cI cJ cC cZ) [(RX8, 36, yX10_outside, "DarkShadows")] sz [(h_t, .inr (5, [.ref h_t_letters, .int t_length, .int t_place, .ref h_t_told, .int t_lettersTold, .int t_restTold])), (h_t_letters, .inl (cC, 130, .inl t_letters)), (h_t_told, .inr (6, [.ref h_t_told_cells, .int t_told_size, .int t_told_most, .int t_told_draw, .int t_told_changes])), (h_t_told_cells, .inl (cI, 48, .inl t_told_cells))])) (va_Qi (fun (r : Int32) (u : Int32 × Int32 × Int32 × Int32 × (Nat → Int32)) => Q r u.1 u.2.1 u.2.2.1 u.2.2.2.1 u.2.2.2.2) (fun u t => gz_E (dC, dI) (gz_T cI cJ cC cZ) (va_A [(h_t, .inr (5, [.ref h_t_letters, .int t_length, .int t_place, .ref h_t_told, .int t_lettersTold, .int t_restTold])), (h_t_letters, .inl (cC, 130, .inl t_letters)), (h_t_told, .inr (6, [.ref h_t_told_cells, .int t_told_size, .int t_told_most, .int t_told_draw, .int t_told_changes])), (h_t_told_cells, .inl (cI, 48, .inl t_told_cells))] sz) [(h_t, .inr (5, [.ref h_t_letters, .int t_length, .int u.1, .ref h_t_told, .int u.2.1, .int u.2.2.1])), (h_t_letters, .inl (cC, 130, .inl t_letters)), (h_t_told, .inr (6, [.ref h_t_told_cells, .int t_told_size, .int t_told_most, .int t_told_draw, .int u.2.2.2.1])), (h_t_told_cells, .inl (cI, 48, .inl u.2.2.2.2))] t) (va_A [(h_t, .inr (5, [.ref h_t_letters, .int t_length, .int t_place, .ref h_t_told, .int t_lettersTold, .int t_restTold])), (h_t_letters, .inl (cC, 130, .inl t_letters)), (h_t_told, .inr (6, [.ref h_t_told_cells, .int t_told_size, .int t_told_most, .int t_told_draw, .int t_told_changes])), (h_t_told_cells, .inl (cI, 48, .inl t_told_cells))] sz)) 0 0 (va_A [(h_t, .inr (5, [.ref h_t_letters, .int t_length, .int t_place, .ref h_t_told, .int t_lettersTold, .int t_restTold])), (h_t_letters, .inl (cC, 130, .inl t_letters)), (h_t_told, .inr (6, [.ref h_t_told_cells, .int t_told_size, .int t_told_most, .int t_told_draw, .int t_told_changes])), (h_t_told_cells, .inl (cI, 48, .inl t_told_cells))] sz) := by
  refine gz_mz (cc := cX8_putTerm) (maxL := 4) (plainFor_of_name (by decide +kernel)) rfl (Nat.le_of_ble_eq_true rfl) ?_
  intro p e s m below meth c A QQ ls hx hb hml hown0 hts hK hN hA hP hD hS hl ret
  have hown : s.vm.findClass RX8 = some m.cls := hown0
  have hl : lv_has ls 4 [(0, .ref h_t), (1, .int x1), (2, .int x2)] := hl
  have q0 := hts (.initialized RX10) (List.mem_cons_of_mem _ (List.mem_append_left _ (List.mem_append_left _ (List.mem_of_getElem? (i := 13) rfl))))
  have q1 := hts (.static yX10_outside) (List.mem_cons_of_mem _ (List.mem_append_left _ (List.mem_append_left _ (List.mem_of_getElem? (i := 12) rfl))))
  have q2 := hts (.fieldLink RX8 51 "DarkShadows$Tape" "restTold" "Z") (List.mem_cons_of_mem _ (List.mem_append_left _ (List.mem_append_left _ (List.mem_of_getElem? (i := 4) rfl))))
  have hinX8 : ∀ w ∈ wsX80, w ∈ wsX8_putTerm := fun w h => List.mem_cons_of_mem _ (List.mem_append_left _ (List.mem_append_right _ h))
  have q4 := hts (.fieldLink RX8 18 "DarkShadows$Tape" "told" "LDarkShadows$Told;") (List.mem_cons_of_mem _ (List.mem_append_left _ (List.mem_append_left _ (List.mem_of_getElem? (i := 1) rfl))))
  have q5 := hts (.fieldLink RX8 29 "DarkShadows$Told" "size" "I") (List.mem_cons_of_mem _ (List.mem_append_left _ (List.mem_append_left _ (List.mem_of_getElem? (i := 2) rfl))))
  have hinX9 : ∀ w ∈ wsX90, w ∈ wsX8_putTerm := fun w h => List.mem_cons_of_mem _ (List.mem_append_right _ h)
  have q7 := hts (.fieldLink RX8 48 "DarkShadows$Tape" "lettersTold" "I") (List.mem_cons_of_mem _ (List.mem_append_left _ (List.mem_append_left _ (List.mem_of_getElem? (i := 0) rfl))))
  have q8 := hts (.fieldLink RX8 26 "DarkShadows$Tape" "place" "I") (List.mem_cons_of_mem _ (List.mem_append_left _ (List.mem_append_left _ (List.mem_of_getElem? (i := 3) rfl))))
  have L59 : ∀ (x3 : Int32) (t_place : Int32) (t_lettersTold : Int32) (t_restTold : Int32) (t_told_changes : Int32) (t_told_cells : Nat → Int32) (s1 : Int32) (s2 : Int32) (s3 : Int32) (s4 : Int32) (H : Heap) (locs : List Loc) (ls : Array Slot), p_X8_putTerm_59 t_place t_lettersTold t_restTold t_told_changes t_told_cells x3 s1 s2 s3 s4 Q → va_P (dC, dI) vwCl [(h_t, .inr (5, [.ref h_t_letters, .int t_length, .int t_place, .ref h_t_told, .int t_lettersTold, .int t_restTold])), (h_t_letters, .inl (cC, 130, .inl t_letters)), (h_t_told, .inr (6, [.ref h_t_told_cells, .int t_told_size, .int t_told_most, .int t_told_draw, .int t_told_changes])), (h_t_told_cells, .inl (cI, 48, .inl t_told_cells))] H → va_D A [(h_t, .inr (5, [.ref h_t_letters, .int t_length, .int t_place, .ref h_t_told, .int t_lettersTold, .int t_restTold])), (h_t_letters, .inl (cC, 130, .inl t_letters)), (h_t_told, .inr (6, [.ref h_t_told_cells, .int t_told_size, .int t_told_most, .int t_told_draw, .int t_told_changes])), (h_t_told_cells, .inl (cI, 48, .inl t_told_cells))] → va_S A s.heap H locs → lv_has ls 4 [(0, .ref h_t), (3, .int x3)] → W p l e rm_X8_putTerm s m [.ref h_t, .int x1, .int x2].toArray below meth c H locs 0 0 QQ (F0 m 59 ls [.int s4, .int s3, .int s2, .int s1, .ref h_t_told]) := by
    intro x3 t_place t_lettersTold t_restTold t_told_changes t_told_cells s1 s2 s3 s4 H locs ls hf hP hD hS hl
    refine lv_imul hx hb dX8_putTerm_59 ?_
    refine gz_v (W1 := (fun u : Int32 × (Nat → Int32) => [(h_t_told, .inr (6, [.ref h_t_told_cells, .int t_told_size, .int t_told_most, .int t_told_draw, .int u.1])), (h_t_told_cells, .inl (cI, 48, .inl u.2))])) (wn := (fun u : Int32 × (Nat → Int32) => [(h_t, .inr (5, [.ref h_t_letters, .int t_length, .int t_place, .ref h_t_told, .int t_lettersTold, .int t_restTold])), (h_t_letters, .inl (cC, 130, .inl t_letters)), (h_t_told, .inr (6, [.ref h_t_told_cells, .int t_told_size, .int t_told_most, .int t_told_draw, .int u.1])), (h_t_told_cells, .inl (cI, 48, .inl u.2))])) (wr := [(h_t, .inr (5, [.ref h_t_letters, .int t_length, .int t_place, .ref h_t_told, .int t_lettersTold, .int t_restTold])), (h_t_letters, .inl (cC, 130, .inl t_letters))]) (va_runV (As := [.int s1, .int s2, .int (s3 * s4)]) (rest := []) ⟨hx, hb, hml, hown, hts⟩ (c_X9_setCell l dC dI cI cJ cC cZ h_t_told h_t_told_cells H.size t_told_size t_told_most t_told_draw t_told_changes t_told_cells s1 s2 (s3 * s4) _ hf) (cwV 3 hts gX8_putTerm_X9_setCell rfl rfl rfl (by decide +kernel) ⟨Nat.le_of_ble_eq_true rfl, Nat.le_of_ble_eq_true rfl⟩) ⟨gz_blind, va_recv hK hP (ci := 6) (q0 := 2) rfl rfl, gz_pre (gz_P_of hP (is := [2, 3]) (wc := [(h_t_told, .inr (6, [.ref h_t_told_cells, .int t_told_size, .int t_told_most, .int t_told_draw, .int t_told_changes])), (h_t_told_cells, .inl (cI, 48, .inl t_told_cells))]) rfl) hK (hD.sub [2, 3] (by decide) rfl) gz_N0⟩ rfl rfl hl.1 rfl (lv_room (Nat.le_of_ble_eq_true rfl)) dX8_putTerm_60 ⟨Nat.le_refl _, Nat.le_refl _⟩) hP hD hS hA [2, 3] [0, 1] [0, 1, 2, 3] rfl rfl (by decide) (by decide) (fun _ => rfl) (by decide) (fun  u H locs hf hP hD hS => ?_)
    obtain ⟨y8, y9⟩ := u
    have hP : va_P (dC, dI) vwCl [(h_t, .inr (5, [.ref h_t_letters, .int t_length, .int t_place, .ref h_t_told, .int t_lettersTold, .int t_restTold])), (h_t_letters, .inl (cC, 130, .inl t_letters)), (h_t_told, .inr (6, [.ref h_t_told_cells, .int t_told_size, .int t_told_most, .int t_told_draw, .int y8])), (h_t_told_cells, .inl (cI, 48, .inl y9))] H := hP
    have hD : va_D A [(h_t, .inr (5, [.ref h_t_letters, .int t_length, .int t_place, .ref h_t_told, .int t_lettersTold, .int t_restTold])), (h_t_letters, .inl (cC, 130, .inl t_letters)), (h_t_told, .inr (6, [.ref h_t_told_cells, .int t_told_size, .int t_told_most, .int t_told_draw, .int y8])), (h_t_told_cells, .inl (cI, 48, .inl y9))] := hD
    refine lv_aload_n hx hb dX8_putTerm_63 rfl (lv_at hl 0 rfl) ?_
    refine lv_dup hx hb dX8_putTerm_64 rfl ?_
    refine va_get (D := (dC, dI)) (ci := 5) (v := .int t_lettersTold) (C := RX8) (T := TX8) (N := 6) hx hb hts hinX8 hown hK hP 0 rfl rfl 4 (by decide) q7 (fun _ h9 => h9) rfl dX8_putTerm_65 ?_
    refine lv_iconst (v := (1 : Int32)) hx hb dX8_putTerm_68 (by decide) ?_
    refine lv_iload_n hx hb dX8_putTerm_69 rfl (lv_at hl 1 rfl) ?_
    refine lv_ishl hx hb dX8_putTerm_70 ?_
    refine lv_ior hx hb dX8_putTerm_71 ?_
    refine va_put (D := (dC, dI)) (ci := 5) (v := .int (t_lettersTold ||| ((1 : Int32) <<< (x3 &&& 31)))) (ty := .int) (C := RX8) (T := TX8) (N := 6) hx hb hts hinX8 tyX8 tyX8_ok nmX8 hown hK hP hD hS 0 rfl rfl 4 (by decide) q7 (fun _ h9 => h9) rfl (by decide +kernel) rfl rfl (Nat.le_of_ble_eq_true rfl) dX8_putTerm_72 (fun H locs hP hD hS => ?_)
    have hP : va_P (dC, dI) vwCl [(h_t, .inr (5, [.ref h_t_letters, .int t_length, .int t_place, .ref h_t_told, .int (t_lettersTold ||| ((1 : Int32) <<< (x3 &&& 31))), .int t_restTold])), (h_t_letters, .inl (cC, 130, .inl t_letters)), (h_t_told, .inr (6, [.ref h_t_told_cells, .int t_told_size, .int t_told_most, .int t_told_draw, .int y8])), (h_t_told_cells, .inl (cI, 48, .inl y9))] H := hP
    have hD : va_D A [(h_t, .inr (5, [.ref h_t_letters, .int t_length, .int t_place, .ref h_t_told, .int (t_lettersTold ||| ((1 : Int32) <<< (x3 &&& 31))), .int t_restTold])), (h_t_letters, .inl (cC, 130, .inl t_letters)), (h_t_told, .inr (6, [.ref h_t_told_cells, .int t_told_size, .int t_told_most, .int t_told_draw, .int y8])), (h_t_told_cells, .inl (cI, 48, .inl y9))] := hD
    refine lv_aload_n hx hb dX8_putTerm_75 rfl (lv_at hl 0 rfl) ?_
    refine lv_dup hx hb dX8_putTerm_76 rfl ?_
    refine va_get (D := (dC, dI)) (ci := 5) (v := .int t_place) (C := RX8) (T := TX8) (N := 6) hx hb hts hinX8 hown hK hP 0 rfl rfl 2 (by decide) q8 (fun _ h9 => h9) rfl dX8_putTerm_77 ?_
    refine lv_iconst (v := (1 : Int32)) hx hb dX8_putTerm_80 (by decide) ?_
    refine lv_iadd hx hb dX8_putTerm_81 ?_
    refine va_put (D := (dC, dI)) (ci := 5) (v := .int (t_place + (1 : Int32))) (ty := .int) (C := RX8) (T := TX8) (N := 6) hx hb hts hinX8 tyX8 tyX8_ok nmX8 hown hK hP hD hS 0 rfl rfl 2 (by decide) q8 (fun _ h9 => h9) rfl (by decide +kernel) rfl rfl (Nat.le_of_ble_eq_true rfl) dX8_putTerm_82 (fun H locs hP hD hS => ?_)
    have hP : va_P (dC, dI) vwCl [(h_t, .inr (5, [.ref h_t_letters, .int t_length, .int (t_place + (1 : Int32)), .ref h_t_told, .int (t_lettersTold ||| ((1 : Int32) <<< (x3 &&& 31))), .int t_restTold])), (h_t_letters, .inl (cC, 130, .inl t_letters)), (h_t_told, .inr (6, [.ref h_t_told_cells, .int t_told_size, .int t_told_most, .int t_told_draw, .int y8])), (h_t_told_cells, .inl (cI, 48, .inl y9))] H := hP
    have hD : va_D A [(h_t, .inr (5, [.ref h_t_letters, .int t_length, .int (t_place + (1 : Int32)), .ref h_t_told, .int (t_lettersTold ||| ((1 : Int32) <<< (x3 &&& 31))), .int t_restTold])), (h_t_letters, .inl (cC, 130, .inl t_letters)), (h_t_told, .inr (6, [.ref h_t_told_cells, .int t_told_size, .int t_told_most, .int t_told_draw, .int y8])), (h_t_told_cells, .inl (cI, 48, .inl y9))] := hD
    refine lv_iconst (v := (1 : Int32)) hx hb dX8_putTerm_85 (by decide) ?_
    exact ret _ _ _ _ (1 : Int32) ((t_place + (1 : Int32)), (t_lettersTold ||| ((1 : Int32) <<< (x3 &&& 31))), t_restTold, y8, y9) rfl hf hP hD hS dX8_putTerm_86
  have hf := hw
  refine lv_aload_n hx hb dX8_putTerm_0 rfl (lv_at hl 0 rfl) ?_
  refine gz_i (W1 := (fun u : Int32 => [(h_t, .inr (5, [.ref h_t_letters, .int t_length, .int u, .ref h_t_told, .int t_lettersTold, .int t_restTold])), (h_t_letters, .inl (cC, 130, .inl t_letters))])) (wn := (fun u : Int32 => [(h_t, .inr (5, [.ref h_t_letters, .int t_length, .int u, .ref h_t_told, .int t_lettersTold, .int t_restTold])), (h_t_letters, .inl (cC, 130, .inl t_letters)), (h_t_told, .inr (6, [.ref h_t_told_cells, .int t_told_size, .int t_told_most, .int t_told_draw, .int t_told_changes])), (h_t_told_cells, .inl (cI, 48, .inl t_told_cells))])) (wr := [(h_t_told, .inr (6, [.ref h_t_told_cells, .int t_told_size, .int t_told_most, .int t_told_draw, .int t_told_changes])), (h_t_told_cells, .inl (cI, 48, .inl t_told_cells))]) (va_runV (As := []) (rest := []) ⟨hx, hb, hml, hown, hts⟩ (c_X8_next l dC dI cI cJ cC cZ h_t h_t_letters h_t_told s.heap.size t_length t_place t_lettersTold t_restTold t_letters _ hf) (cwV 0 hts gX8_putTerm_X8_next rfl rfl rfl (by decide +kernel) ⟨Nat.le_of_ble_eq_true rfl, Nat.le_of_ble_eq_true rfl⟩) ⟨gz_blind, va_recv hK hP (ci := 5) (q0 := 0) rfl rfl, gz_pre (gz_P_of hP (is := [0, 1]) (wc := [(h_t, .inr (5, [.ref h_t_letters, .int t_length, .int t_place, .ref h_t_told, .int t_lettersTold, .int t_restTold])), (h_t_letters, .inl (cC, 130, .inl t_letters))]) rfl) hK (hD.sub [0, 1] (by decide) rfl) gz_N0⟩ rfl rfl hl.1 rfl (lv_room (Nat.le_of_ble_eq_true rfl)) dX8_putTerm_1 ⟨Nat.le_refl _, Nat.le_refl _⟩) hP hD hS hA [0, 1] [2, 3] [2, 3, 0, 1] rfl rfl (by decide) (by decide) (fun _ => rfl) (by decide) (fun r1 y2 H locs hf hP hD hS => ?_)
  have hP : va_P (dC, dI) vwCl [(h_t, .inr (5, [.ref h_t_letters, .int t_length, .int y2, .ref h_t_told, .int t_lettersTold, .int t_restTold])), (h_t_letters, .inl (cC, 130, .inl t_letters)), (h_t_told, .inr (6, [.ref h_t_told_cells, .int t_told_size, .int t_told_most, .int t_told_draw, .int t_told_changes])), (h_t_told_cells, .inl (cI, 48, .inl t_told_cells))] H := hP
  have hD : va_D A [(h_t, .inr (5, [.ref h_t_letters, .int t_length, .int y2, .ref h_t_told, .int t_lettersTold, .int t_restTold])), (h_t_letters, .inl (cC, 130, .inl t_letters)), (h_t_told, .inr (6, [.ref h_t_told_cells, .int t_told_size, .int t_told_most, .int t_told_draw, .int t_told_changes])), (h_t_told_cells, .inl (cI, 48, .inl t_told_cells))] := hD
  refine lv_bipush (v := (97 : Int32)) hx hb dX8_putTerm_4 (by decide) ?_
  refine lv_isub hx hb dX8_putTerm_6 ?_
  refine lv_istore_n (lv' := [(3, .int (r1 - (97 : Int32))), (0, .ref h_t), (1, .int x1), (2, .int x2)]) hx hb dX8_putTerm_7 rfl hl (by decide) rfl (fun ls hl => ?_)
  refine lv_iload_n hx hb dX8_putTerm_8 rfl (lv_at hl 0 rfl) ?_
  refine lv_iconst (v := (0 : Int32)) hx hb dX8_putTerm_9 (by decide) ?_
  refine lv_iconst (v := (3 : Int32)) hx hb dX8_putTerm_10 (by decide) ?_
  refine gz_i0 (va_runSN (As := [.int (r1 - (97 : Int32)), .int (0 : Int32), .int (3 : Int32)]) (rest := []) ⟨hx, hb, hml, hown, hts⟩ (c_X10_outside l dC dI cI cJ cC cZ H.size (r1 - (97 : Int32)) (0 : Int32) (3 : Int32) _ hf) ⟨va_cnB 3 hts gX8_putTerm_X10_outside_n36 rfl rfl rfl (hN.at 0 rfl) q0 (by decide +kernel) ⟨Nat.le_of_ble_eq_true rfl, Nat.le_of_ble_eq_true rfl⟩, q1, trivial⟩ ⟨gz_blind, gz_pre (gz_P_of hP (is := []) (wc := []) rfl) hK (hD.sub [] (by decide) rfl) gz_N0⟩ rfl rfl hl.1 rfl (lv_room (Nat.le_of_ble_eq_true rfl)) dX8_putTerm_11 ⟨Nat.le_refl _, Nat.le_refl _⟩) hP hD hS hA (fun r3 H locs hf hP hS => ?_)
  refine lv_if_ne (tgt := 87) hx hb dX8_putTerm_14 (by decide) (fun hc13 => ?_) (fun hc13 => ?_)
  · have hf := hf.2 hc13
    refine lv_iload_n hx hb dX8_putTerm_87 rfl (lv_at hl 2 rfl) ?_
    refine lv_if_lt (tgt := 98) hx hb dX8_putTerm_88 (by decide) (fun hc7 => ?_) (fun hc7 => ?_)
    · have hf := hf.1 hc7
      refine lv_iconst (v := (0 : Int32)) hx hb dX8_putTerm_98 (by decide) ?_
      exact ret _ _ _ _ (0 : Int32) (y2, t_lettersTold, t_restTold, t_told_changes, t_told_cells) rfl hf hP hD hS dX8_putTerm_99
    · have hf := hf.2 hc7
      refine lv_aload_n hx hb dX8_putTerm_91 rfl (lv_at hl 1 rfl) ?_
      refine va_get (D := (dC, dI)) (ci := 5) (v := .int t_restTold) (C := RX8) (T := TX8) (N := 6) hx hb hts hinX8 hown hK hP 0 rfl rfl 5 (by decide) q2 (fun _ h9 => h9) rfl dX8_putTerm_92 ?_
      refine lv_if_eq (tgt := 100) hx hb dX8_putTerm_95 (by decide) (fun hc6 => ?_) (fun hc6 => ?_)
      · have hf := hf.1 hc6
        refine lv_aload_n hx hb dX8_putTerm_100 rfl (lv_at hl 1 rfl) ?_
        refine va_get (D := (dC, dI)) (ci := 5) (v := .ref h_t_told) (C := RX8) (T := TX8) (N := 6) hx hb hts hinX8 hown hK hP 0 rfl rfl 3 (by decide) q4 (fun _ h9 => h9) rfl dX8_putTerm_101 ?_
        refine lv_aload_n hx hb dX8_putTerm_104 rfl (lv_at hl 1 rfl) ?_
        refine va_get (D := (dC, dI)) (ci := 5) (v := .ref h_t_told) (C := RX8) (T := TX8) (N := 6) hx hb hts hinX8 hown hK hP 0 rfl rfl 3 (by decide) q4 (fun _ h9 => h9) rfl dX8_putTerm_105 ?_
        refine va_get (D := (dC, dI)) (ci := 6) (v := .int t_told_size) (C := RX9) (T := TX9) (N := 5) hx hb hts hinX9 hown hK hP 2 rfl rfl 1 (by decide) q5 (fun _ h9 => h9) rfl dX8_putTerm_108 ?_
        refine lv_iconst (v := (4 : Int32)) hx hb dX8_putTerm_111 (by decide) ?_
        refine lv_iload_n hx hb dX8_putTerm_112 rfl (lv_at hl 3 rfl) ?_
        refine lv_iload_n hx hb dX8_putTerm_113 rfl (lv_at hl 2 rfl) ?_
        refine lv_imul hx hb dX8_putTerm_114 ?_
        refine gz_v (W1 := (fun u : Int32 × (Nat → Int32) => [(h_t_told, .inr (6, [.ref h_t_told_cells, .int t_told_size, .int t_told_most, .int t_told_draw, .int u.1])), (h_t_told_cells, .inl (cI, 48, .inl u.2))])) (wn := (fun u : Int32 × (Nat → Int32) => [(h_t, .inr (5, [.ref h_t_letters, .int t_length, .int y2, .ref h_t_told, .int t_lettersTold, .int t_restTold])), (h_t_letters, .inl (cC, 130, .inl t_letters)), (h_t_told, .inr (6, [.ref h_t_told_cells, .int t_told_size, .int t_told_most, .int t_told_draw, .int u.1])), (h_t_told_cells, .inl (cI, 48, .inl u.2))])) (wr := [(h_t, .inr (5, [.ref h_t_letters, .int t_length, .int y2, .ref h_t_told, .int t_lettersTold, .int t_restTold])), (h_t_letters, .inl (cC, 130, .inl t_letters))]) (va_runV (As := [.int t_told_size, .int (4 : Int32), .int (x2 * x1)]) (rest := []) ⟨hx, hb, hml, hown, hts⟩ (c_X9_setCell l dC dI cI cJ cC cZ h_t_told h_t_told_cells H.size t_told_size t_told_most t_told_draw t_told_changes t_told_cells t_told_size (4 : Int32) (x2 * x1) _ hf) (cwV 3 hts gX8_putTerm_X9_setCell rfl rfl rfl (by decide +kernel) ⟨Nat.le_of_ble_eq_true rfl, Nat.le_of_ble_eq_true rfl⟩) ⟨gz_blind, va_recv hK hP (ci := 6) (q0 := 2) rfl rfl, gz_pre (gz_P_of hP (is := [2, 3]) (wc := [(h_t_told, .inr (6, [.ref h_t_told_cells, .int t_told_size, .int t_told_most, .int t_told_draw, .int t_told_changes])), (h_t_told_cells, .inl (cI, 48, .inl t_told_cells))]) rfl) hK (hD.sub [2, 3] (by decide) rfl) gz_N0⟩ rfl rfl hl.1 rfl (lv_room (Nat.le_of_ble_eq_true rfl)) dX8_putTerm_115 ⟨Nat.le_refl _, Nat.le_refl _⟩) hP hD hS hA [2, 3] [0, 1] [0, 1, 2, 3] rfl rfl (by decide) (by decide) (fun _ => rfl) (by decide) (fun  u H locs hf hP hD hS => ?_)
        obtain ⟨y4, y5⟩ := u
        have hP : va_P (dC, dI) vwCl [(h_t, .inr (5, [.ref h_t_letters, .int t_length, .int y2, .ref h_t_told, .int t_lettersTold, .int t_restTold])), (h_t_letters, .inl (cC, 130, .inl t_letters)), (h_t_told, .inr (6, [.ref h_t_told_cells, .int t_told_size, .int t_told_most, .int t_told_draw, .int y4])), (h_t_told_cells, .inl (cI, 48, .inl y5))] H := hP
        have hD : va_D A [(h_t, .inr (5, [.ref h_t_letters, .int t_length, .int y2, .ref h_t_told, .int t_lettersTold, .int t_restTold])), (h_t_letters, .inl (cC, 130, .inl t_letters)), (h_t_told, .inr (6, [.ref h_t_told_cells, .int t_told_size, .int t_told_most, .int t_told_draw, .int y4])), (h_t_told_cells, .inl (cI, 48, .inl y5))] := hD
        refine lv_aload_n hx hb dX8_putTerm_118 rfl (lv_at hl 1 rfl) ?_
        refine lv_iconst (v := (1 : Int32)) hx hb dX8_putTerm_119 (by decide) ?_
        refine va_put (D := (dC, dI)) (ci := 5) (v := .int (1 : Int32)) (ty := .boolean) (C := RX8) (T := TX8) (N := 6) hx hb hts hinX8 tyX8 tyX8_ok nmX8 hown hK hP hD hS 0 rfl rfl 5 (by decide) q2 (fun _ h9 => h9) rfl (by decide +kernel) rfl rfl (Nat.le_of_ble_eq_true rfl) dX8_putTerm_120 (fun H locs hP hD hS => ?_)
        have hP : va_P (dC, dI) vwCl [(h_t, .inr (5, [.ref h_t_letters, .int t_length, .int y2, .ref h_t_told, .int t_lettersTold, .int (1 : Int32)])), (h_t_letters, .inl (cC, 130, .inl t_letters)), (h_t_told, .inr (6, [.ref h_t_told_cells, .int t_told_size, .int t_told_most, .int t_told_draw, .int y4])), (h_t_told_cells, .inl (cI, 48, .inl y5))] H := hP
        have hD : va_D A [(h_t, .inr (5, [.ref h_t_letters, .int t_length, .int y2, .ref h_t_told, .int t_lettersTold, .int (1 : Int32)])), (h_t_letters, .inl (cC, 130, .inl t_letters)), (h_t_told, .inr (6, [.ref h_t_told_cells, .int t_told_size, .int t_told_most, .int t_told_draw, .int y4])), (h_t_told_cells, .inl (cI, 48, .inl y5))] := hD
        refine lv_iconst (v := (1 : Int32)) hx hb dX8_putTerm_123 (by decide) ?_
        exact ret _ _ _ _ (1 : Int32) (y2, t_lettersTold, (1 : Int32), y4, y5) rfl hf hP hD hS dX8_putTerm_124
      · have hf := hf.2 hc6
        refine lv_iconst (v := (0 : Int32)) hx hb dX8_putTerm_98 (by decide) ?_
        exact ret _ _ _ _ (0 : Int32) (y2, t_lettersTold, t_restTold, t_told_changes, t_told_cells) rfl hf hP hD hS dX8_putTerm_99
  · have hf := hf.1 hc13
    refine lv_iload_n hx hb dX8_putTerm_17 rfl (lv_at hl 2 rfl) ?_
    refine lv_bipush (v := (9 : Int32)) hx hb dX8_putTerm_18 (by decide) ?_
    refine lv_icmp_gt (tgt := 35) hx hb dX8_putTerm_20 (by decide) (fun hc12 => ?_) (fun hc12 => ?_)
    · have hf := hf.1 hc12
      refine lv_iconst (v := (0 : Int32)) hx hb dX8_putTerm_35 (by decide) ?_
      exact ret _ _ _ _ (0 : Int32) (y2, t_lettersTold, t_restTold, t_told_changes, t_told_cells) rfl hf hP hD hS dX8_putTerm_36
    · have hf := hf.2 hc12
      refine lv_aload_n hx hb dX8_putTerm_23 rfl (lv_at hl 1 rfl) ?_
      refine va_get (D := (dC, dI)) (ci := 5) (v := .int t_lettersTold) (C := RX8) (T := TX8) (N := 6) hx hb hts hinX8 hown hK hP 0 rfl rfl 4 (by decide) q7 (fun _ h9 => h9) rfl dX8_putTerm_24 ?_
      refine lv_iload_n hx hb dX8_putTerm_27 rfl (lv_at hl 0 rfl) ?_
      refine lv_ishr hx hb dX8_putTerm_28 ?_
      refine lv_iconst (v := (1 : Int32)) hx hb dX8_putTerm_29 (by decide) ?_
      refine lv_iand hx hb dX8_putTerm_30 ?_
      refine lv_iconst (v := (1 : Int32)) hx hb dX8_putTerm_31 (by decide) ?_
      refine lv_icmp_ne (tgt := 37) hx hb dX8_putTerm_32 (by decide) (fun hc11 => ?_) (fun hc11 => ?_)
      · have hf := hf.2 hc11
        refine lv_aload_n hx hb dX8_putTerm_37 rfl (lv_at hl 1 rfl) ?_
        refine va_get (D := (dC, dI)) (ci := 5) (v := .ref h_t_told) (C := RX8) (T := TX8) (N := 6) hx hb hts hinX8 hown hK hP 0 rfl rfl 3 (by decide) q4 (fun _ h9 => h9) rfl dX8_putTerm_38 ?_
        refine lv_aload_n hx hb dX8_putTerm_41 rfl (lv_at hl 1 rfl) ?_
        refine va_get (D := (dC, dI)) (ci := 5) (v := .ref h_t_told) (C := RX8) (T := TX8) (N := 6) hx hb hts hinX8 hown hK hP 0 rfl rfl 3 (by decide) q4 (fun _ h9 => h9) rfl dX8_putTerm_42 ?_
        refine va_get (D := (dC, dI)) (ci := 6) (v := .int t_told_size) (C := RX9) (T := TX9) (N := 5) hx hb hts hinX9 hown hK hP 2 rfl rfl 1 (by decide) q5 (fun _ h9 => h9) rfl dX8_putTerm_45 ?_
        refine lv_iload_n hx hb dX8_putTerm_48 rfl (lv_at hl 0 rfl) ?_
        refine lv_iload_n hx hb dX8_putTerm_49 rfl (lv_at hl 3 rfl) ?_
        refine lv_iload_n hx hb dX8_putTerm_50 rfl (lv_at hl 2 rfl) ?_
        refine lv_if_ge (tgt := 58) hx hb dX8_putTerm_51 (by decide) (fun hc10 => ?_) (fun hc10 => ?_)
        · have hf := hf.1 hc10
          refine lv_iload_n hx hb dX8_putTerm_58 rfl (lv_at hl 2 rfl) ?_
          exact L59 (r1 - (97 : Int32)) y2 t_lettersTold t_restTold t_told_changes t_told_cells t_told_size (r1 - (97 : Int32)) x2 x1 _ _ _ hf hP hD hS (lv_sub hl [1, 0] rfl)
        · have hf := hf.2 hc10
          refine lv_iconst (v := (1 : Int32)) hx hb dX8_putTerm_54 (by decide) ?_
          refine lv_goto (tgt := 59) hx hb dX8_putTerm_55 (by decide) ?_
          exact L59 (r1 - (97 : Int32)) y2 t_lettersTold t_restTold t_told_changes t_told_cells t_told_size (r1 - (97 : Int32)) x2 (1 : Int32) _ _ _ hf hP hD hS (lv_sub hl [1, 0] rfl)
      · have hf := hf.1 hc11
        refine lv_iconst (v := (0 : Int32)) hx hb dX8_putTerm_35 (by decide) ?_
        exact ret _ _ _ _ (0 : Int32) (y2, t_lettersTold, t_restTold, t_told_changes, t_told_cells) rfl hf hP hD hS dX8_putTerm_36
abbrev rm_X8_readTerm : Room := { frames := 2, cells := 0, slots := 0, locals := 46 }
set_option maxHeartbeats 4000000 in
set_option maxRecDepth 100000 in
theorem c_X8_readTerm (l : Launch) (dC : Nat → ClassId) (dI : Nat → Nat → Nat) (cI cJ cC cZ : ClassId) (h_t h_t_letters h_t_told h_t_told_cells : Nat) (sz : Nat) (t_length : Int32) (t_place : Int32) (t_lettersTold : Int32) (t_restTold : Int32) (t_letters : Nat → Int32) (t_told_size : Int32) (t_told_most : Int32) (t_told_draw : Int32) (t_told_changes : Int32) (t_told_cells : Nat → Int32) (x1 : Int32) (Q : Int32 → Int32 → Int32 → Int32 → Int32 → (Nat → Int32) → Prop) (hw : p_X8_readTerm t_length t_place t_lettersTold t_restTold t_letters t_told_size t_told_changes t_told_cells x1 Q) : Met l yX8_readTerm wsX8_readTerm rm_X8_readTerm (va_Pc [.ref h_t, .int x1] (gz_B (dC, dI) (gz_T cI cJ cC cZ) [(RX8, 36, yX10_outside, "DarkShadows")] sz [(h_t, .inr (5, [.ref h_t_letters, .int t_length, .int t_place, .ref h_t_told, .int t_lettersTold, .int t_restTold])), (h_t_letters, .inl (cC, 130, .inl t_letters)), (h_t_told, .inr (6, [.ref h_t_told_cells, .int t_told_size, .int t_told_most, .int t_told_draw, .int t_told_changes])), (h_t_told_cells, .inl (cI, 48, .inl t_told_cells))])) (va_Qi (fun (r : Int32) (u : Int32 × Int32 × Int32 × Int32 × (Nat → Int32)) => Q r u.1 u.2.1 u.2.2.1 u.2.2.2.1 u.2.2.2.2) (fun u t => gz_E (dC, dI) (gz_T cI cJ cC cZ) (va_A [(h_t, .inr (5, [.ref h_t_letters, .int t_length, .int t_place, .ref h_t_told, .int t_lettersTold, .int t_restTold])), (h_t_letters, .inl (cC, 130, .inl t_letters)), (h_t_told, .inr (6, [.ref h_t_told_cells, .int t_told_size, .int t_told_most, .int t_told_draw, .int t_told_changes])), (h_t_told_cells, .inl (cI, 48, .inl t_told_cells))] sz) [(h_t, .inr (5, [.ref h_t_letters, .int t_length, .int u.1, .ref h_t_told, .int u.2.1, .int u.2.2.1])), (h_t_letters, .inl (cC, 130, .inl t_letters)), (h_t_told, .inr (6, [.ref h_t_told_cells, .int t_told_size, .int t_told_most, .int t_told_draw, .int u.2.2.2.1])), (h_t_told_cells, .inl (cI, 48, .inl u.2.2.2.2))] t) (va_A [(h_t, .inr (5, [.ref h_t_letters, .int t_length, .int t_place, .ref h_t_told, .int t_lettersTold, .int t_restTold])), (h_t_letters, .inl (cC, 130, .inl t_letters)), (h_t_told, .inr (6, [.ref h_t_told_cells, .int t_told_size, .int t_told_most, .int t_told_draw, .int t_told_changes])), (h_t_told_cells, .inl (cI, 48, .inl t_told_cells))] sz)) 0 0 (va_A [(h_t, .inr (5, [.ref h_t_letters, .int t_length, .int t_place, .ref h_t_told, .int t_lettersTold, .int t_restTold])), (h_t_letters, .inl (cC, 130, .inl t_letters)), (h_t_told, .inr (6, [.ref h_t_told_cells, .int t_told_size, .int t_told_most, .int t_told_draw, .int t_told_changes])), (h_t_told_cells, .inl (cI, 48, .inl t_told_cells))] sz) := by
  refine gz_mz (cc := cX8_readTerm) (maxL := 4) (plainFor_of_name (by decide +kernel)) rfl (Nat.le_of_ble_eq_true rfl) ?_
  intro p e s m below meth c A QQ ls hx hb hml hown0 hts hK hN hA hP hD hS hl ret
  have hown : s.vm.findClass RX8 = some m.cls := hown0
  have hl : lv_has ls 4 [(0, .ref h_t), (1, .int x1)] := hl
  have q0 := hts (.fieldLink RX8 26 "DarkShadows$Tape" "place" "I") (List.mem_cons_of_mem _ (List.mem_append_left _ (List.mem_append_left _ (List.mem_append_left _ (List.mem_of_getElem? (i := 0) rfl)))))
  have hinX8 : ∀ w ∈ wsX80, w ∈ wsX8_readTerm := fun w h => List.mem_cons_of_mem _ (List.mem_append_left _ (List.mem_append_right _ h))
  have L54 : ∀ (t_place : Int32) (t_lettersTold : Int32) (t_restTold : Int32) (t_told_changes : Int32) (t_told_cells : Nat → Int32) (s1 : Int32) (s2 : Int32) (H : Heap) (locs : List Loc) (ls : Array Slot), p_X8_readTerm_54 t_length t_place t_lettersTold t_restTold t_letters t_told_size t_told_changes t_told_cells s1 s2 Q → va_P (dC, dI) vwCl [(h_t, .inr (5, [.ref h_t_letters, .int t_length, .int t_place, .ref h_t_told, .int t_lettersTold, .int t_restTold])), (h_t_letters, .inl (cC, 130, .inl t_letters)), (h_t_told, .inr (6, [.ref h_t_told_cells, .int t_told_size, .int t_told_most, .int t_told_draw, .int t_told_changes])), (h_t_told_cells, .inl (cI, 48, .inl t_told_cells))] H → va_D A [(h_t, .inr (5, [.ref h_t_letters, .int t_length, .int t_place, .ref h_t_told, .int t_lettersTold, .int t_restTold])), (h_t_letters, .inl (cC, 130, .inl t_letters)), (h_t_told, .inr (6, [.ref h_t_told_cells, .int t_told_size, .int t_told_most, .int t_told_draw, .int t_told_changes])), (h_t_told_cells, .inl (cI, 48, .inl t_told_cells))] → va_S A s.heap H locs → lv_has ls 4 [] → W p l e rm_X8_readTerm s m [.ref h_t, .int x1].toArray below meth c H locs 0 0 QQ (F0 m 54 ls [.int s2, .int s1, .ref h_t]) := by
    intro t_place t_lettersTold t_restTold t_told_changes t_told_cells s1 s2 H locs ls hf hP hD hS hl
    refine gz_i (W1 := (fun u : Int32 × Int32 × Int32 × Int32 × (Nat → Int32) => [(h_t, .inr (5, [.ref h_t_letters, .int t_length, .int u.1, .ref h_t_told, .int u.2.1, .int u.2.2.1])), (h_t_letters, .inl (cC, 130, .inl t_letters)), (h_t_told, .inr (6, [.ref h_t_told_cells, .int t_told_size, .int t_told_most, .int t_told_draw, .int u.2.2.2.1])), (h_t_told_cells, .inl (cI, 48, .inl u.2.2.2.2))])) (wn := (fun u : Int32 × Int32 × Int32 × Int32 × (Nat → Int32) => [(h_t, .inr (5, [.ref h_t_letters, .int t_length, .int u.1, .ref h_t_told, .int u.2.1, .int u.2.2.1])), (h_t_letters, .inl (cC, 130, .inl t_letters)), (h_t_told, .inr (6, [.ref h_t_told_cells, .int t_told_size, .int t_told_most, .int t_told_draw, .int u.2.2.2.1])), (h_t_told_cells, .inl (cI, 48, .inl u.2.2.2.2))])) (wr := []) (va_runV (As := [.int s1, .int s2]) (rest := []) ⟨hx, hb, hml, hown, hts⟩ (c_X8_putTerm l dC dI cI cJ cC cZ h_t h_t_letters h_t_told h_t_told_cells H.size t_length t_place t_lettersTold t_restTold t_letters t_told_size t_told_most t_told_draw t_told_changes t_told_cells s1 s2 _ hf) (cwV 2 hts gX8_readTerm_X8_putTerm rfl rfl rfl (by decide +kernel) ⟨Nat.le_of_ble_eq_true rfl, Nat.le_of_ble_eq_true rfl⟩) ⟨gz_blind, va_recv hK hP (ci := 5) (q0 := 0) rfl rfl, gz_pre (gz_P_of hP (is := [0, 1, 2, 3]) (wc := [(h_t, .inr (5, [.ref h_t_letters, .int t_length, .int t_place, .ref h_t_told, .int t_lettersTold, .int t_restTold])), (h_t_letters, .inl (cC, 130, .inl t_letters)), (h_t_told, .inr (6, [.ref h_t_told_cells, .int t_told_size, .int t_told_most, .int t_told_draw, .int t_told_changes])), (h_t_told_cells, .inl (cI, 48, .inl t_told_cells))]) rfl) hK (hD.sub [0, 1, 2, 3] (by decide) rfl) hN⟩ rfl rfl hl.1 rfl (lv_room (Nat.le_of_ble_eq_true rfl)) dX8_readTerm_54 ⟨Nat.le_refl _, Nat.le_refl _⟩) hP hD hS hA [0, 1, 2, 3] [] [0, 1, 2, 3] rfl rfl (by decide) (by decide) (fun _ => rfl) (by decide) (fun r5 u H locs hf hP hD hS => ?_)
    obtain ⟨y6, y7, y8, y9, y10⟩ := u
    have hP : va_P (dC, dI) vwCl [(h_t, .inr (5, [.ref h_t_letters, .int t_length, .int y6, .ref h_t_told, .int y7, .int y8])), (h_t_letters, .inl (cC, 130, .inl t_letters)), (h_t_told, .inr (6, [.ref h_t_told_cells, .int t_told_size, .int t_told_most, .int t_told_draw, .int y9])), (h_t_told_cells, .inl (cI, 48, .inl y10))] H := hP
    have hD : va_D A [(h_t, .inr (5, [.ref h_t_letters, .int t_length, .int y6, .ref h_t_told, .int y7, .int y8])), (h_t_letters, .inl (cC, 130, .inl t_letters)), (h_t_told, .inr (6, [.ref h_t_told_cells, .int t_told_size, .int t_told_most, .int t_told_draw, .int y9])), (h_t_told_cells, .inl (cI, 48, .inl y10))] := hD
    exact ret _ _ _ _ r5 (y6, y7, y8, y9, y10) hf.1 hf.2 hP hD hS dX8_readTerm_57
  have L36 : ∀ (x2 : Int32) (t_place : Int32) (t_lettersTold : Int32) (t_restTold : Int32) (t_told_changes : Int32) (t_told_cells : Nat → Int32) (H : Heap) (locs : List Loc) (ls : Array Slot), p_X8_readTerm_36 t_length t_place t_lettersTold t_restTold t_letters t_told_size t_told_changes t_told_cells x2 Q → va_P (dC, dI) vwCl [(h_t, .inr (5, [.ref h_t_letters, .int t_length, .int t_place, .ref h_t_told, .int t_lettersTold, .int t_restTold])), (h_t_letters, .inl (cC, 130, .inl t_letters)), (h_t_told, .inr (6, [.ref h_t_told_cells, .int t_told_size, .int t_told_most, .int t_told_draw, .int t_told_changes])), (h_t_told_cells, .inl (cI, 48, .inl t_told_cells))] H → va_D A [(h_t, .inr (5, [.ref h_t_letters, .int t_length, .int t_place, .ref h_t_told, .int t_lettersTold, .int t_restTold])), (h_t_letters, .inl (cC, 130, .inl t_letters)), (h_t_told, .inr (6, [.ref h_t_told_cells, .int t_told_size, .int t_told_most, .int t_told_draw, .int t_told_changes])), (h_t_told_cells, .inl (cI, 48, .inl t_told_cells))] → va_S A s.heap H locs → lv_has ls 4 [(0, .ref h_t), (2, .int x2)] → W p l e rm_X8_readTerm s m [.ref h_t, .int x1].toArray below meth c H locs 0 0 QQ (F0 m 36 ls []) := by
    intro x2 t_place t_lettersTold t_restTold t_told_changes t_told_cells H locs ls hf hP hD hS hl
    refine lv_aload_n hx hb dX8_readTerm_36 rfl (lv_at hl 0 rfl) ?_
    refine gz_i (W1 := (fun u : Int32 => [(h_t, .inr (5, [.ref h_t_letters, .int t_length, .int u, .ref h_t_told, .int t_lettersTold, .int t_restTold])), (h_t_letters, .inl (cC, 130, .inl t_letters))])) (wn := (fun u : Int32 => [(h_t, .inr (5, [.ref h_t_letters, .int t_length, .int u, .ref h_t_told, .int t_lettersTold, .int t_restTold])), (h_t_letters, .inl (cC, 130, .inl t_letters)), (h_t_told, .inr (6, [.ref h_t_told_cells, .int t_told_size, .int t_told_most, .int t_told_draw, .int t_told_changes])), (h_t_told_cells, .inl (cI, 48, .inl t_told_cells))])) (wr := [(h_t_told, .inr (6, [.ref h_t_told_cells, .int t_told_size, .int t_told_most, .int t_told_draw, .int t_told_changes])), (h_t_told_cells, .inl (cI, 48, .inl t_told_cells))]) (va_runV (As := []) (rest := []) ⟨hx, hb, hml, hown, hts⟩ (c_X8_readNumber l dC dI cI cJ cC cZ h_t h_t_letters h_t_told H.size t_length t_place t_lettersTold t_restTold t_letters _ hf) (cwV 0 hts gX8_readTerm_X8_readNumber rfl rfl rfl (by decide +kernel) ⟨Nat.le_of_ble_eq_true rfl, Nat.le_of_ble_eq_true rfl⟩) ⟨gz_blind, va_recv hK hP (ci := 5) (q0 := 0) rfl rfl, gz_pre (gz_P_of hP (is := [0, 1]) (wc := [(h_t, .inr (5, [.ref h_t_letters, .int t_length, .int t_place, .ref h_t_told, .int t_lettersTold, .int t_restTold])), (h_t_letters, .inl (cC, 130, .inl t_letters))]) rfl) hK (hD.sub [0, 1] (by decide) rfl) hN⟩ rfl rfl hl.1 rfl (lv_room (Nat.le_of_ble_eq_true rfl)) dX8_readTerm_37 ⟨Nat.le_refl _, Nat.le_refl _⟩) hP hD hS hA [0, 1] [2, 3] [2, 3, 0, 1] rfl rfl (by decide) (by decide) (fun _ => rfl) (by decide) (fun r3 y4 H locs hf hP hD hS => ?_)
    have hP : va_P (dC, dI) vwCl [(h_t, .inr (5, [.ref h_t_letters, .int t_length, .int y4, .ref h_t_told, .int t_lettersTold, .int t_restTold])), (h_t_letters, .inl (cC, 130, .inl t_letters)), (h_t_told, .inr (6, [.ref h_t_told_cells, .int t_told_size, .int t_told_most, .int t_told_draw, .int t_told_changes])), (h_t_told_cells, .inl (cI, 48, .inl t_told_cells))] H := hP
    have hD : va_D A [(h_t, .inr (5, [.ref h_t_letters, .int t_length, .int y4, .ref h_t_told, .int t_lettersTold, .int t_restTold])), (h_t_letters, .inl (cC, 130, .inl t_letters)), (h_t_told, .inr (6, [.ref h_t_told_cells, .int t_told_size, .int t_told_most, .int t_told_draw, .int t_told_changes])), (h_t_told_cells, .inl (cI, 48, .inl t_told_cells))] := hD
    refine lv_istore_n (lv' := [(3, .int r3), (0, .ref h_t), (2, .int x2)]) hx hb dX8_readTerm_40 rfl hl (by decide) rfl (fun ls hl => ?_)
    refine lv_aload_n hx hb dX8_readTerm_41 rfl (lv_at hl 1 rfl) ?_
    refine lv_iload_n hx hb dX8_readTerm_42 rfl (lv_at hl 0 rfl) ?_
    refine lv_iload_n hx hb dX8_readTerm_43 rfl (lv_at hl 2 rfl) ?_
    refine lv_bipush (v := (45 : Int32)) hx hb dX8_readTerm_44 (by decide) ?_
    refine lv_icmp_ne (tgt := 53) hx hb dX8_readTerm_46 (by decide) (fun hc11 => ?_) (fun hc11 => ?_)
    · have hf := hf.2 hc11
      refine lv_iconst (v := (1 : Int32)) hx hb dX8_readTerm_53 (by decide) ?_
      exact L54 y4 t_lettersTold t_restTold t_told_changes t_told_cells r3 (1 : Int32) _ _ _ hf hP hD hS (lv_sub hl [] rfl)
    · have hf := hf.1 hc11
      refine lv_iconst (v := (-1 : Int32)) hx hb dX8_readTerm_49 (by decide) ?_
      refine lv_goto (tgt := 54) hx hb dX8_readTerm_50 (by decide) ?_
      exact L54 y4 t_lettersTold t_restTold t_told_changes t_told_cells r3 (-1 : Int32) _ _ _ hf hP hD hS (lv_sub hl [] rfl)
  have L17 : ∀ (x2 : Int32) (t_place : Int32) (t_lettersTold : Int32) (t_restTold : Int32) (t_told_changes : Int32) (t_told_cells : Nat → Int32) (H : Heap) (locs : List Loc) (ls : Array Slot), p_X8_readTerm_17 t_length t_place t_lettersTold t_restTold t_letters t_told_size t_told_changes t_told_cells x2 Q → va_P (dC, dI) vwCl [(h_t, .inr (5, [.ref h_t_letters, .int t_length, .int t_place, .ref h_t_told, .int t_lettersTold, .int t_restTold])), (h_t_letters, .inl (cC, 130, .inl t_letters)), (h_t_told, .inr (6, [.ref h_t_told_cells, .int t_told_size, .int t_told_most, .int t_told_draw, .int t_told_changes])), (h_t_told_cells, .inl (cI, 48, .inl t_told_cells))] H → va_D A [(h_t, .inr (5, [.ref h_t_letters, .int t_length, .int t_place, .ref h_t_told, .int t_lettersTold, .int t_restTold])), (h_t_letters, .inl (cC, 130, .inl t_letters)), (h_t_told, .inr (6, [.ref h_t_told_cells, .int t_told_size, .int t_told_most, .int t_told_draw, .int t_told_changes])), (h_t_told_cells, .inl (cI, 48, .inl t_told_cells))] → va_S A s.heap H locs → lv_has ls 4 [(0, .ref h_t), (2, .int x2)] → W p l e rm_X8_readTerm s m [.ref h_t, .int x1].toArray below meth c H locs 0 0 QQ (F0 m 17 ls []) := by
    intro x2 t_place t_lettersTold t_restTold t_told_changes t_told_cells H locs ls hf hP hD hS hl
    refine lv_aload_n hx hb dX8_readTerm_17 rfl (lv_at hl 0 rfl) ?_
    refine lv_dup hx hb dX8_readTerm_18 rfl ?_
    refine va_get (D := (dC, dI)) (ci := 5) (v := .int t_place) (C := RX8) (T := TX8) (N := 6) hx hb hts hinX8 hown hK hP 0 rfl rfl 2 (by decide) q0 (fun _ h9 => h9) rfl dX8_readTerm_19 ?_
    refine lv_iconst (v := (1 : Int32)) hx hb dX8_readTerm_22 (by decide) ?_
    refine lv_iadd hx hb dX8_readTerm_23 ?_
    refine va_put (D := (dC, dI)) (ci := 5) (v := .int (t_place + (1 : Int32))) (ty := .int) (C := RX8) (T := TX8) (N := 6) hx hb hts hinX8 tyX8 tyX8_ok nmX8 hown hK hP hD hS 0 rfl rfl 2 (by decide) q0 (fun _ h9 => h9) rfl (by decide +kernel) rfl rfl (Nat.le_of_ble_eq_true rfl) dX8_readTerm_24 (fun H locs hP hD hS => ?_)
    have hP : va_P (dC, dI) vwCl [(h_t, .inr (5, [.ref h_t_letters, .int t_length, .int (t_place + (1 : Int32)), .ref h_t_told, .int t_lettersTold, .int t_restTold])), (h_t_letters, .inl (cC, 130, .inl t_letters)), (h_t_told, .inr (6, [.ref h_t_told_cells, .int t_told_size, .int t_told_most, .int t_told_draw, .int t_told_changes])), (h_t_told_cells, .inl (cI, 48, .inl t_told_cells))] H := hP
    have hD : va_D A [(h_t, .inr (5, [.ref h_t_letters, .int t_length, .int (t_place + (1 : Int32)), .ref h_t_told, .int t_lettersTold, .int t_restTold])), (h_t_letters, .inl (cC, 130, .inl t_letters)), (h_t_told, .inr (6, [.ref h_t_told_cells, .int t_told_size, .int t_told_most, .int t_told_draw, .int t_told_changes])), (h_t_told_cells, .inl (cI, 48, .inl t_told_cells))] := hD
    refine lv_goto (tgt := 36) hx hb dX8_readTerm_27 (by decide) ?_
    exact L36 x2 (t_place + (1 : Int32)) t_lettersTold t_restTold t_told_changes t_told_cells _ _ _ hf hP hD hS hl
  have hf := hw
  refine lv_aload_n hx hb dX8_readTerm_0 rfl (lv_at hl 0 rfl) ?_
  refine gz_i (W1 := (fun u : Int32 => [(h_t, .inr (5, [.ref h_t_letters, .int t_length, .int u, .ref h_t_told, .int t_lettersTold, .int t_restTold])), (h_t_letters, .inl (cC, 130, .inl t_letters))])) (wn := (fun u : Int32 => [(h_t, .inr (5, [.ref h_t_letters, .int t_length, .int u, .ref h_t_told, .int t_lettersTold, .int t_restTold])), (h_t_letters, .inl (cC, 130, .inl t_letters)), (h_t_told, .inr (6, [.ref h_t_told_cells, .int t_told_size, .int t_told_most, .int t_told_draw, .int t_told_changes])), (h_t_told_cells, .inl (cI, 48, .inl t_told_cells))])) (wr := [(h_t_told, .inr (6, [.ref h_t_told_cells, .int t_told_size, .int t_told_most, .int t_told_draw, .int t_told_changes])), (h_t_told_cells, .inl (cI, 48, .inl t_told_cells))]) (va_runV (As := []) (rest := []) ⟨hx, hb, hml, hown, hts⟩ (c_X8_next l dC dI cI cJ cC cZ h_t h_t_letters h_t_told s.heap.size t_length t_place t_lettersTold t_restTold t_letters _ hf) (cwV 0 hts gX8_readTerm_X8_next rfl rfl rfl (by decide +kernel) ⟨Nat.le_of_ble_eq_true rfl, Nat.le_of_ble_eq_true rfl⟩) ⟨gz_blind, va_recv hK hP (ci := 5) (q0 := 0) rfl rfl, gz_pre (gz_P_of hP (is := [0, 1]) (wc := [(h_t, .inr (5, [.ref h_t_letters, .int t_length, .int t_place, .ref h_t_told, .int t_lettersTold, .int t_restTold])), (h_t_letters, .inl (cC, 130, .inl t_letters))]) rfl) hK (hD.sub [0, 1] (by decide) rfl) gz_N0⟩ rfl rfl hl.1 rfl (lv_room (Nat.le_of_ble_eq_true rfl)) dX8_readTerm_1 ⟨Nat.le_refl _, Nat.le_refl _⟩) hP hD hS hA [0, 1] [2, 3] [2, 3, 0, 1] rfl rfl (by decide) (by decide) (fun _ => rfl) (by decide) (fun r1 y2 H locs hf hP hD hS => ?_)
  have hP : va_P (dC, dI) vwCl [(h_t, .inr (5, [.ref h_t_letters, .int t_length, .int y2, .ref h_t_told, .int t_lettersTold, .int t_restTold])), (h_t_letters, .inl (cC, 130, .inl t_letters)), (h_t_told, .inr (6, [.ref h_t_told_cells, .int t_told_size, .int t_told_most, .int t_told_draw, .int t_told_changes])), (h_t_told_cells, .inl (cI, 48, .inl t_told_cells))] H := hP
  have hD : va_D A [(h_t, .inr (5, [.ref h_t_letters, .int t_length, .int y2, .ref h_t_told, .int t_lettersTold, .int t_restTold])), (h_t_letters, .inl (cC, 130, .inl t_letters)), (h_t_told, .inr (6, [.ref h_t_told_cells, .int t_told_size, .int t_told_most, .int t_told_draw, .int t_told_changes])), (h_t_told_cells, .inl (cI, 48, .inl t_told_cells))] := hD
  refine lv_istore_n (lv' := [(2, .int r1), (0, .ref h_t), (1, .int x1)]) hx hb dX8_readTerm_4 rfl hl (by decide) rfl (fun ls hl => ?_)
  refine lv_iload_n hx hb dX8_readTerm_5 rfl (lv_at hl 0 rfl) ?_
  refine lv_bipush (v := (43 : Int32)) hx hb dX8_readTerm_6 (by decide) ?_
  refine lv_icmp_eq (tgt := 17) hx hb dX8_readTerm_8 (by decide) (fun hc14 => ?_) (fun hc14 => ?_)
  · have hf := hf.1 hc14
    exact L17 r1 y2 t_lettersTold t_restTold t_told_changes t_told_cells _ _ _ hf hP hD hS (lv_sub hl [1, 0] rfl)
  · have hf := hf.2 hc14
    refine lv_iload_n hx hb dX8_readTerm_11 rfl (lv_at hl 0 rfl) ?_
    refine lv_bipush (v := (45 : Int32)) hx hb dX8_readTerm_12 (by decide) ?_
    refine lv_icmp_ne (tgt := 30) hx hb dX8_readTerm_14 (by decide) (fun hc13 => ?_) (fun hc13 => ?_)
    · have hf := hf.2 hc13
      refine lv_iload_n hx hb dX8_readTerm_30 rfl (lv_at hl 2 rfl) ?_
      refine lv_if_ne (tgt := 36) hx hb dX8_readTerm_31 (by decide) (fun hc12 => ?_) (fun hc12 => ?_)
      · have hf := hf.2 hc12
        exact L36 r1 y2 t_lettersTold t_restTold t_told_changes t_told_cells _ _ _ hf hP hD hS (lv_sub hl [1, 0] rfl)
      · have hf := hf.1 hc12
        refine lv_iconst (v := (0 : Int32)) hx hb dX8_readTerm_34 (by decide) ?_
        exact ret _ _ _ _ (0 : Int32) (y2, t_lettersTold, t_restTold, t_told_changes, t_told_cells) rfl hf hP hD hS dX8_readTerm_35
    · have hf := hf.1 hc13
      exact L17 r1 y2 t_lettersTold t_restTold t_told_changes t_told_cells _ _ _ hf hP hD hS (lv_sub hl [1, 0] rfl)
abbrev rm_X8_readConstraint : Room := { frames := 3, cells := 0, slots := 0, locals := 69 }
set_option maxHeartbeats 4000000 in
set_option maxRecDepth 100000 in
theorem c_X8_readConstraint (l : Launch) (dC : Nat → ClassId) (dI : Nat → Nat → Nat) (cI cJ cC cZ : ClassId) (h_t h_t_letters h_t_told h_t_told_cells : Nat) (sz : Nat) (t_length : Int32) (t_place : Int32) (t_lettersTold : Int32) (t_restTold : Int32) (t_letters : Nat → Int32) (t_told_size : Int32) (t_told_most : Int32) (t_told_draw : Int32) (t_told_changes : Int32) (t_told_cells : Nat → Int32) (Q : Int32 → Int32 → Int32 → Int32 → Int32 → Int32 → (Nat → Int32) → Prop) (hw : p_X8_readConstraint t_length t_place t_lettersTold t_restTold t_letters t_told_size t_told_changes t_told_cells Q) : Met l yX8_readConstraint wsX8_readConstraint rm_X8_readConstraint (va_Pc [.ref h_t] (gz_B (dC, dI) (gz_T cI cJ cC cZ) [(RX8, 36, yX10_outside, "DarkShadows")] sz [(h_t, .inr (5, [.ref h_t_letters, .int t_length, .int t_place, .ref h_t_told, .int t_lettersTold, .int t_restTold])), (h_t_letters, .inl (cC, 130, .inl t_letters)), (h_t_told, .inr (6, [.ref h_t_told_cells, .int t_told_size, .int t_told_most, .int t_told_draw, .int t_told_changes])), (h_t_told_cells, .inl (cI, 48, .inl t_told_cells))])) (va_Qi (fun (r : Int32) (u : Int32 × Int32 × Int32 × Int32 × Int32 × (Nat → Int32)) => Q r u.1 u.2.1 u.2.2.1 u.2.2.2.1 u.2.2.2.2.1 u.2.2.2.2.2) (fun u t => gz_E (dC, dI) (gz_T cI cJ cC cZ) (va_A [(h_t, .inr (5, [.ref h_t_letters, .int t_length, .int t_place, .ref h_t_told, .int t_lettersTold, .int t_restTold])), (h_t_letters, .inl (cC, 130, .inl t_letters)), (h_t_told, .inr (6, [.ref h_t_told_cells, .int t_told_size, .int t_told_most, .int t_told_draw, .int t_told_changes])), (h_t_told_cells, .inl (cI, 48, .inl t_told_cells))] sz) [(h_t, .inr (5, [.ref h_t_letters, .int t_length, .int u.1, .ref h_t_told, .int u.2.1, .int u.2.2.1])), (h_t_letters, .inl (cC, 130, .inl t_letters)), (h_t_told, .inr (6, [.ref h_t_told_cells, .int u.2.2.2.1, .int t_told_most, .int t_told_draw, .int u.2.2.2.2.1])), (h_t_told_cells, .inl (cI, 48, .inl u.2.2.2.2.2))] t) (va_A [(h_t, .inr (5, [.ref h_t_letters, .int t_length, .int t_place, .ref h_t_told, .int t_lettersTold, .int t_restTold])), (h_t_letters, .inl (cC, 130, .inl t_letters)), (h_t_told, .inr (6, [.ref h_t_told_cells, .int t_told_size, .int t_told_most, .int t_told_draw, .int t_told_changes])), (h_t_told_cells, .inl (cI, 48, .inl t_told_cells))] sz)) 0 0 (va_A [(h_t, .inr (5, [.ref h_t_letters, .int t_length, .int t_place, .ref h_t_told, .int t_lettersTold, .int t_restTold])), (h_t_letters, .inl (cC, 130, .inl t_letters)), (h_t_told, .inr (6, [.ref h_t_told_cells, .int t_told_size, .int t_told_most, .int t_told_draw, .int t_told_changes])), (h_t_told_cells, .inl (cI, 48, .inl t_told_cells))] sz) := by
  refine gz_mz (cc := cX8_readConstraint) (maxL := 3) (plainFor_of_name (by decide +kernel)) rfl (Nat.le_of_ble_eq_true rfl) ?_
  intro p e s m below meth c A QQ ls hx hb hml hown0 hts hK hN hA hP hD hS hl ret
  have hown : s.vm.findClass RX8 = some m.cls := hown0
  have hl : lv_has ls 3 [(0, .ref h_t)] := hl
  have q0 := hts (.fieldLink RX8 48 "DarkShadows$Tape" "lettersTold" "I") (List.mem_cons_of_mem _ (List.mem_append_left _ (List.mem_append_left _ (List.mem_append_left _ (List.mem_of_getElem? (i := 0) rfl)))))
  have q1 := hts (.fieldLink RX8 51 "DarkShadows$Tape" "restTold" "Z") (List.mem_cons_of_mem _ (List.mem_append_left _ (List.mem_append_left _ (List.mem_append_left _ (List.mem_of_getElem? (i := 1) rfl)))))
  have q2 := hts (.fieldLink RX8 18 "DarkShadows$Tape" "told" "LDarkShadows$Told;") (List.mem_cons_of_mem _ (List.mem_append_left _ (List.mem_append_left _ (List.mem_append_left _ (List.mem_of_getElem? (i := 2) rfl)))))
  have hinX8 : ∀ w ∈ wsX80, w ∈ wsX8_readConstraint := fun w h => List.mem_cons_of_mem _ (List.mem_append_left _ (List.mem_append_right _ h))
  have q4 := hts (.fieldLink RX8 29 "DarkShadows$Told" "size" "I") (List.mem_cons_of_mem _ (List.mem_append_left _ (List.mem_append_left _ (List.mem_append_left _ (List.mem_of_getElem? (i := 3) rfl)))))
  have hinX9 : ∀ w ∈ wsX90, w ∈ wsX8_readConstraint := fun w h => List.mem_cons_of_mem _ (List.mem_append_right _ h)
  have q6 := hts (.fieldLink RX8 26 "DarkShadows$Tape" "place" "I") (List.mem_cons_of_mem _ (List.mem_append_left _ (List.mem_append_left _ (List.mem_append_left _ (List.mem_of_getElem? (i := 4) rfl)))))
  have L42 : ∀ (t_told_size : Int32) (n : Nat) (x1 : Int32) (t_place : Int32) (t_lettersTold : Int32) (t_restTold : Int32) (t_told_changes : Int32) (t_told_cells : Nat → Int32) (H : Heap) (locs : List Loc) (ls : Array Slot), gi6 (p_X8_readConstraint_42 t_length t_letters t_told_size Q) n x1 t_place t_lettersTold t_restTold t_told_changes t_told_cells → va_P (dC, dI) vwCl [(h_t, .inr (5, [.ref h_t_letters, .int t_length, .int t_place, .ref h_t_told, .int t_lettersTold, .int t_restTold])), (h_t_letters, .inl (cC, 130, .inl t_letters)), (h_t_told, .inr (6, [.ref h_t_told_cells, .int t_told_size, .int t_told_most, .int t_told_draw, .int t_told_changes])), (h_t_told_cells, .inl (cI, 48, .inl t_told_cells))] H → va_D A [(h_t, .inr (5, [.ref h_t_letters, .int t_length, .int t_place, .ref h_t_told, .int t_lettersTold, .int t_restTold])), (h_t_letters, .inl (cC, 130, .inl t_letters)), (h_t_told, .inr (6, [.ref h_t_told_cells, .int t_told_size, .int t_told_most, .int t_told_draw, .int t_told_changes])), (h_t_told_cells, .inl (cI, 48, .inl t_told_cells))] → va_S A s.heap H locs → lv_has ls 3 [(0, .ref h_t), (1, .int x1)] → W p l e rm_X8_readConstraint s m [.ref h_t].toArray below meth c H locs 0 0 QQ (F0 m 42 ls []) := by
    intro t_told_size n
    induction n with
    | zero => intro x1 t_place t_lettersTold t_restTold t_told_changes t_told_cells H locs ls hf; exact False.elim hf
    | succ n ih42 =>
      generalize hK42 : gi6 (p_X8_readConstraint_42 t_length t_letters t_told_size Q) n = K42 at ih42
      have L59 : ∀ (x1 : Int32) (t_place : Int32) (t_lettersTold : Int32) (t_restTold : Int32) (t_told_changes : Int32) (t_told_cells : Nat → Int32) (s1 : Int32) (H : Heap) (locs : List Loc) (ls : Array Slot), p_X8_readConstraint_59 t_length t_place t_lettersTold t_restTold t_letters t_told_size t_told_changes t_told_cells x1 s1 K42 Q → va_P (dC, dI) vwCl [(h_t, .inr (5, [.ref h_t_letters, .int t_length, .int t_place, .ref h_t_told, .int t_lettersTold, .int t_restTold])), (h_t_letters, .inl (cC, 130, .inl t_letters)), (h_t_told, .inr (6, [.ref h_t_told_cells, .int t_told_size, .int t_told_most, .int t_told_draw, .int t_told_changes])), (h_t_told_cells, .inl (cI, 48, .inl t_told_cells))] H → va_D A [(h_t, .inr (5, [.ref h_t_letters, .int t_length, .int t_place, .ref h_t_told, .int t_lettersTold, .int t_restTold])), (h_t_letters, .inl (cC, 130, .inl t_letters)), (h_t_told, .inr (6, [.ref h_t_told_cells, .int t_told_size, .int t_told_most, .int t_told_draw, .int t_told_changes])), (h_t_told_cells, .inl (cI, 48, .inl t_told_cells))] → va_S A s.heap H locs → lv_has ls 3 [(0, .ref h_t), (1, .int x1)] → W p l e rm_X8_readConstraint s m [.ref h_t].toArray below meth c H locs 0 0 QQ (F0 m 59 ls [.int s1, .ref h_t]) := by
        intro x1 t_place t_lettersTold t_restTold t_told_changes t_told_cells s1 H locs ls hf hP hD hS hl
        refine gz_i (W1 := (fun u : Int32 × Int32 × Int32 × Int32 × (Nat → Int32) => [(h_t, .inr (5, [.ref h_t_letters, .int t_length, .int u.1, .ref h_t_told, .int u.2.1, .int u.2.2.1])), (h_t_letters, .inl (cC, 130, .inl t_letters)), (h_t_told, .inr (6, [.ref h_t_told_cells, .int t_told_size, .int t_told_most, .int t_told_draw, .int u.2.2.2.1])), (h_t_told_cells, .inl (cI, 48, .inl u.2.2.2.2))])) (wn := (fun u : Int32 × Int32 × Int32 × Int32 × (Nat → Int32) => [(h_t, .inr (5, [.ref h_t_letters, .int t_length, .int u.1, .ref h_t_told, .int u.2.1, .int u.2.2.1])), (h_t_letters, .inl (cC, 130, .inl t_letters)), (h_t_told, .inr (6, [.ref h_t_told_cells, .int t_told_size, .int t_told_most, .int t_told_draw, .int u.2.2.2.1])), (h_t_told_cells, .inl (cI, 48, .inl u.2.2.2.2))])) (wr := []) (va_runV (As := [.int s1]) (rest := []) ⟨hx, hb, hml, hown, hts⟩ (c_X8_readTerm l dC dI cI cJ cC cZ h_t h_t_letters h_t_told h_t_told_cells H.size t_length t_place t_lettersTold t_restTold t_letters t_told_size t_told_most t_told_draw t_told_changes t_told_cells s1 _ hf) (cwV 1 hts gX8_readConstraint_X8_readTerm rfl rfl rfl (by decide +kernel) ⟨Nat.le_of_ble_eq_true rfl, Nat.le_of_ble_eq_true rfl⟩) ⟨gz_blind, va_recv hK hP (ci := 5) (q0 := 0) rfl rfl, gz_pre (gz_P_of hP (is := [0, 1, 2, 3]) (wc := [(h_t, .inr (5, [.ref h_t_letters, .int t_length, .int t_place, .ref h_t_told, .int t_lettersTold, .int t_restTold])), (h_t_letters, .inl (cC, 130, .inl t_letters)), (h_t_told, .inr (6, [.ref h_t_told_cells, .int t_told_size, .int t_told_most, .int t_told_draw, .int t_told_changes])), (h_t_told_cells, .inl (cI, 48, .inl t_told_cells))]) rfl) hK (hD.sub [0, 1, 2, 3] (by decide) rfl) hN⟩ rfl rfl hl.1 rfl (lv_room (Nat.le_of_ble_eq_true rfl)) dX8_readConstraint_59 ⟨Nat.le_refl _, Nat.le_refl _⟩) hP hD hS hA [0, 1, 2, 3] [] [0, 1, 2, 3] rfl rfl (by decide) (by decide) (fun _ => rfl) (by decide) (fun r1 u H locs hf hP hD hS => ?_)
        obtain ⟨y2, y3, y4, y5, y6⟩ := u
        have hP : va_P (dC, dI) vwCl [(h_t, .inr (5, [.ref h_t_letters, .int t_length, .int y2, .ref h_t_told, .int y3, .int y4])), (h_t_letters, .inl (cC, 130, .inl t_letters)), (h_t_told, .inr (6, [.ref h_t_told_cells, .int t_told_size, .int t_told_most, .int t_told_draw, .int y5])), (h_t_told_cells, .inl (cI, 48, .inl y6))] H := hP
        have hD : va_D A [(h_t, .inr (5, [.ref h_t_letters, .int t_length, .int y2, .ref h_t_told, .int y3, .int y4])), (h_t_letters, .inl (cC, 130, .inl t_letters)), (h_t_told, .inr (6, [.ref h_t_told_cells, .int t_told_size, .int t_told_most, .int t_told_draw, .int y5])), (h_t_told_cells, .inl (cI, 48, .inl y6))] := hD
        refine lv_if_ne (tgt := 67) hx hb dX8_readConstraint_62 (by decide) (fun hc13 => ?_) (fun hc13 => ?_)
        · have hf := hf.2 hc13
          refine lv_aload_n hx hb dX8_readConstraint_67 rfl (lv_at hl 0 rfl) ?_
          refine gz_i (W1 := (fun u : Int32 => [(h_t, .inr (5, [.ref h_t_letters, .int t_length, .int u, .ref h_t_told, .int y3, .int y4])), (h_t_letters, .inl (cC, 130, .inl t_letters))])) (wn := (fun u : Int32 => [(h_t, .inr (5, [.ref h_t_letters, .int t_length, .int u, .ref h_t_told, .int y3, .int y4])), (h_t_letters, .inl (cC, 130, .inl t_letters)), (h_t_told, .inr (6, [.ref h_t_told_cells, .int t_told_size, .int t_told_most, .int t_told_draw, .int y5])), (h_t_told_cells, .inl (cI, 48, .inl y6))])) (wr := [(h_t_told, .inr (6, [.ref h_t_told_cells, .int t_told_size, .int t_told_most, .int t_told_draw, .int y5])), (h_t_told_cells, .inl (cI, 48, .inl y6))]) (va_runV (As := []) (rest := []) ⟨hx, hb, hml, hown, hts⟩ (c_X8_next l dC dI cI cJ cC cZ h_t h_t_letters h_t_told H.size t_length y2 y3 y4 t_letters _ hf) (cwV 0 hts gX8_readConstraint_X8_next rfl rfl rfl (by decide +kernel) ⟨Nat.le_of_ble_eq_true rfl, Nat.le_of_ble_eq_true rfl⟩) ⟨gz_blind, va_recv hK hP (ci := 5) (q0 := 0) rfl rfl, gz_pre (gz_P_of hP (is := [0, 1]) (wc := [(h_t, .inr (5, [.ref h_t_letters, .int t_length, .int y2, .ref h_t_told, .int y3, .int y4])), (h_t_letters, .inl (cC, 130, .inl t_letters))]) rfl) hK (hD.sub [0, 1] (by decide) rfl) gz_N0⟩ rfl rfl hl.1 rfl (lv_room (Nat.le_of_ble_eq_true rfl)) dX8_readConstraint_68 ⟨Nat.le_refl _, Nat.le_refl _⟩) hP hD hS hA [0, 1] [2, 3] [2, 3, 0, 1] rfl rfl (by decide) (by decide) (fun _ => rfl) (by decide) (fun r7 y8 H locs hf hP hD hS => ?_)
          have hP : va_P (dC, dI) vwCl [(h_t, .inr (5, [.ref h_t_letters, .int t_length, .int y8, .ref h_t_told, .int y3, .int y4])), (h_t_letters, .inl (cC, 130, .inl t_letters)), (h_t_told, .inr (6, [.ref h_t_told_cells, .int t_told_size, .int t_told_most, .int t_told_draw, .int y5])), (h_t_told_cells, .inl (cI, 48, .inl y6))] H := hP
          have hD : va_D A [(h_t, .inr (5, [.ref h_t_letters, .int t_length, .int y8, .ref h_t_told, .int y3, .int y4])), (h_t_letters, .inl (cC, 130, .inl t_letters)), (h_t_told, .inr (6, [.ref h_t_told_cells, .int t_told_size, .int t_told_most, .int t_told_draw, .int y5])), (h_t_told_cells, .inl (cI, 48, .inl y6))] := hD
          refine gz_i0 (va_runS (As := [.int r7]) (rest := []) ⟨hx, hb, hml, hown, hts⟩ (c_X1_ofSign l dC dI cI cJ cC cZ H.size r7 _ hf) (va_cwS 1 hts gX8_readConstraint_X1_ofSign rfl rfl rfl (by decide +kernel) ⟨Nat.le_of_ble_eq_true rfl, Nat.le_of_ble_eq_true rfl⟩) ⟨gz_blind, gz_pre (gz_P_of hP (is := []) (wc := []) rfl) hK (hD.sub [] (by decide) rfl) gz_N0⟩ rfl rfl hl.1 rfl (lv_room (Nat.le_of_ble_eq_true rfl)) dX8_readConstraint_71 ⟨Nat.le_refl _, Nat.le_refl _⟩) hP hD hS hA (fun r9 H locs hf hP hS => ?_)
          refine lv_istore_n (lv' := [(2, .int r9), (0, .ref h_t), (1, .int x1)]) hx hb dX8_readConstraint_74 rfl hl (by decide) rfl (fun ls hl => ?_)
          refine lv_iload_n hx hb dX8_readConstraint_75 rfl (lv_at hl 0 rfl) ?_
          refine lv_if_lt (tgt := 120) hx hb dX8_readConstraint_76 (by decide) (fun hc12 => ?_) (fun hc12 => ?_)
          · have hf := hf.1 hc12
            refine lv_iinc (v := (x1 + (1 : Int32))) (lv' := [(1, .int (x1 + (1 : Int32))), (2, .int r9), (0, .ref h_t)]) hx hb dX8_readConstraint_120 hl (k := 2) rfl rfl (by decide) rfl (fun ls hl => ?_)
            refine lv_goto (tgt := 42) hx hb dX8_readConstraint_123 (by decide) ?_
            exact ih42 (x1 + (1 : Int32)) y8 y3 y4 y5 y6 _ _ _ hf hP hD hS (lv_sub hl [2, 0] rfl)
          · have hf := hf.2 hc12
            refine lv_aload_n hx hb dX8_readConstraint_79 rfl (lv_at hl 1 rfl) ?_
            refine va_get (D := (dC, dI)) (ci := 5) (v := .ref h_t_told) (C := RX8) (T := TX8) (N := 6) hx hb hts hinX8 hown hK hP 0 rfl rfl 3 (by decide) q2 (fun _ h9 => h9) rfl dX8_readConstraint_80 ?_
            refine lv_aload_n hx hb dX8_readConstraint_83 rfl (lv_at hl 1 rfl) ?_
            refine va_get (D := (dC, dI)) (ci := 5) (v := .ref h_t_told) (C := RX8) (T := TX8) (N := 6) hx hb hts hinX8 hown hK hP 0 rfl rfl 3 (by decide) q2 (fun _ h9 => h9) rfl dX8_readConstraint_84 ?_
            refine va_get (D := (dC, dI)) (ci := 6) (v := .int t_told_size) (C := RX9) (T := TX9) (N := 5) hx hb hts hinX9 hown hK hP 2 rfl rfl 1 (by decide) q4 (fun _ h9 => h9) rfl dX8_readConstraint_87 ?_
            refine lv_iconst (v := (5 : Int32)) hx hb dX8_readConstraint_90 (by decide) ?_
            refine lv_iload_n hx hb dX8_readConstraint_91 rfl (lv_at hl 0 rfl) ?_
            refine gz_v (W1 := (fun u : Int32 × (Nat → Int32) => [(h_t_told, .inr (6, [.ref h_t_told_cells, .int t_told_size, .int t_told_most, .int t_told_draw, .int u.1])), (h_t_told_cells, .inl (cI, 48, .inl u.2))])) (wn := (fun u : Int32 × (Nat → Int32) => [(h_t, .inr (5, [.ref h_t_letters, .int t_length, .int y8, .ref h_t_told, .int y3, .int y4])), (h_t_letters, .inl (cC, 130, .inl t_letters)), (h_t_told, .inr (6, [.ref h_t_told_cells, .int t_told_size, .int t_told_most, .int t_told_draw, .int u.1])), (h_t_told_cells, .inl (cI, 48, .inl u.2))])) (wr := [(h_t, .inr (5, [.ref h_t_letters, .int t_length, .int y8, .ref h_t_told, .int y3, .int y4])), (h_t_letters, .inl (cC, 130, .inl t_letters))]) (va_runV (As := [.int t_told_size, .int (5 : Int32), .int r9]) (rest := []) ⟨hx, hb, hml, hown, hts⟩ (c_X9_setCell l dC dI cI cJ cC cZ h_t_told h_t_told_cells H.size t_told_size t_told_most t_told_draw y5 y6 t_told_size (5 : Int32) r9 _ hf) (cwV 3 hts gX8_readConstraint_X9_setCell rfl rfl rfl (by decide +kernel) ⟨Nat.le_of_ble_eq_true rfl, Nat.le_of_ble_eq_true rfl⟩) ⟨gz_blind, va_recv hK hP (ci := 6) (q0 := 2) rfl rfl, gz_pre (gz_P_of hP (is := [2, 3]) (wc := [(h_t_told, .inr (6, [.ref h_t_told_cells, .int t_told_size, .int t_told_most, .int t_told_draw, .int y5])), (h_t_told_cells, .inl (cI, 48, .inl y6))]) rfl) hK (hD.sub [2, 3] (by decide) rfl) gz_N0⟩ rfl rfl hl.1 rfl (lv_room (Nat.le_of_ble_eq_true rfl)) dX8_readConstraint_92 ⟨Nat.le_refl _, Nat.le_refl _⟩) hP hD hS hA [2, 3] [0, 1] [0, 1, 2, 3] rfl rfl (by decide) (by decide) (fun _ => rfl) (by decide) (fun  u H locs hf hP hD hS => ?_)
            obtain ⟨y10, y11⟩ := u
            have hP : va_P (dC, dI) vwCl [(h_t, .inr (5, [.ref h_t_letters, .int t_length, .int y8, .ref h_t_told, .int y3, .int y4])), (h_t_letters, .inl (cC, 130, .inl t_letters)), (h_t_told, .inr (6, [.ref h_t_told_cells, .int t_told_size, .int t_told_most, .int t_told_draw, .int y10])), (h_t_told_cells, .inl (cI, 48, .inl y11))] H := hP
            have hD : va_D A [(h_t, .inr (5, [.ref h_t_letters, .int t_length, .int y8, .ref h_t_told, .int y3, .int y4])), (h_t_letters, .inl (cC, 130, .inl t_letters)), (h_t_told, .inr (6, [.ref h_t_told_cells, .int t_told_size, .int t_told_most, .int t_told_draw, .int y10])), (h_t_told_cells, .inl (cI, 48, .inl y11))] := hD
            refine lv_aload_n hx hb dX8_readConstraint_95 rfl (lv_at hl 1 rfl) ?_
            refine va_get (D := (dC, dI)) (ci := 5) (v := .ref h_t_told) (C := RX8) (T := TX8) (N := 6) hx hb hts hinX8 hown hK hP 0 rfl rfl 3 (by decide) q2 (fun _ h9 => h9) rfl dX8_readConstraint_96 ?_
            refine lv_dup hx hb dX8_readConstraint_99 rfl ?_
            refine va_get (D := (dC, dI)) (ci := 6) (v := .int t_told_size) (C := RX9) (T := TX9) (N := 5) hx hb hts hinX9 hown hK hP 2 rfl rfl 1 (by decide) q4 (fun _ h9 => h9) rfl dX8_readConstraint_100 ?_
            refine lv_iconst (v := (1 : Int32)) hx hb dX8_readConstraint_103 (by decide) ?_
            refine lv_iadd hx hb dX8_readConstraint_104 ?_
            refine va_put (D := (dC, dI)) (ci := 6) (v := .int (t_told_size + (1 : Int32))) (ty := .int) (C := RX9) (T := TX9) (N := 5) hx hb hts hinX9 tyX9 tyX9_ok nmX9 hown hK hP hD hS 2 rfl rfl 1 (by decide) q4 (fun _ h9 => h9) rfl (by decide +kernel) rfl rfl (Nat.le_of_ble_eq_true rfl) dX8_readConstraint_105 (fun H locs hP hD hS => ?_)
            have hP : va_P (dC, dI) vwCl [(h_t, .inr (5, [.ref h_t_letters, .int t_length, .int y8, .ref h_t_told, .int y3, .int y4])), (h_t_letters, .inl (cC, 130, .inl t_letters)), (h_t_told, .inr (6, [.ref h_t_told_cells, .int (t_told_size + (1 : Int32)), .int t_told_most, .int t_told_draw, .int y10])), (h_t_told_cells, .inl (cI, 48, .inl y11))] H := hP
            have hD : va_D A [(h_t, .inr (5, [.ref h_t_letters, .int t_length, .int y8, .ref h_t_told, .int y3, .int y4])), (h_t_letters, .inl (cC, 130, .inl t_letters)), (h_t_told, .inr (6, [.ref h_t_told_cells, .int (t_told_size + (1 : Int32)), .int t_told_most, .int t_told_draw, .int y10])), (h_t_told_cells, .inl (cI, 48, .inl y11))] := hD
            refine lv_aload_n hx hb dX8_readConstraint_108 rfl (lv_at hl 1 rfl) ?_
            refine lv_dup hx hb dX8_readConstraint_109 rfl ?_
            refine va_get (D := (dC, dI)) (ci := 5) (v := .int y8) (C := RX8) (T := TX8) (N := 6) hx hb hts hinX8 hown hK hP 0 rfl rfl 2 (by decide) q6 (fun _ h9 => h9) rfl dX8_readConstraint_110 ?_
            refine lv_iconst (v := (1 : Int32)) hx hb dX8_readConstraint_113 (by decide) ?_
            refine lv_iadd hx hb dX8_readConstraint_114 ?_
            refine va_put (D := (dC, dI)) (ci := 5) (v := .int (y8 + (1 : Int32))) (ty := .int) (C := RX8) (T := TX8) (N := 6) hx hb hts hinX8 tyX8 tyX8_ok nmX8 hown hK hP hD hS 0 rfl rfl 2 (by decide) q6 (fun _ h9 => h9) rfl (by decide +kernel) rfl rfl (Nat.le_of_ble_eq_true rfl) dX8_readConstraint_115 (fun H locs hP hD hS => ?_)
            have hP : va_P (dC, dI) vwCl [(h_t, .inr (5, [.ref h_t_letters, .int t_length, .int (y8 + (1 : Int32)), .ref h_t_told, .int y3, .int y4])), (h_t_letters, .inl (cC, 130, .inl t_letters)), (h_t_told, .inr (6, [.ref h_t_told_cells, .int (t_told_size + (1 : Int32)), .int t_told_most, .int t_told_draw, .int y10])), (h_t_told_cells, .inl (cI, 48, .inl y11))] H := hP
            have hD : va_D A [(h_t, .inr (5, [.ref h_t_letters, .int t_length, .int (y8 + (1 : Int32)), .ref h_t_told, .int y3, .int y4])), (h_t_letters, .inl (cC, 130, .inl t_letters)), (h_t_told, .inr (6, [.ref h_t_told_cells, .int (t_told_size + (1 : Int32)), .int t_told_most, .int t_told_draw, .int y10])), (h_t_told_cells, .inl (cI, 48, .inl y11))] := hD
            refine lv_iconst (v := (1 : Int32)) hx hb dX8_readConstraint_118 (by decide) ?_
            exact ret _ _ _ _ (1 : Int32) ((y8 + (1 : Int32)), y3, y4, (t_told_size + (1 : Int32)), y10, y11) rfl hf hP hD hS dX8_readConstraint_119
        · have hf := hf.1 hc13
          refine lv_iconst (v := (0 : Int32)) hx hb dX8_readConstraint_65 (by decide) ?_
          exact ret _ _ _ _ (0 : Int32) (y2, y3, y4, t_told_size, y5, y6) rfl hf hP hD hS dX8_readConstraint_66
      intro x1 t_place t_lettersTold t_restTold t_told_changes t_told_cells H locs ls hf hP hD hS hl
      have hf : p_X8_readConstraint_42 t_length t_letters t_told_size Q (gi6 (p_X8_readConstraint_42 t_length t_letters t_told_size Q) n) x1 t_place t_lettersTold t_restTold t_told_changes t_told_cells := hf
      rw [hK42] at hf
      refine lv_iload_n hx hb dX8_readConstraint_42 rfl (lv_at hl 1 rfl) ?_
      refine lv_sipush (v := (130 : Int32)) hx hb dX8_readConstraint_43 (by decide) ?_
      refine lv_icmp_ge (tgt := 126) hx hb dX8_readConstraint_46 (by decide) (fun hc15 => ?_) (fun hc15 => ?_)
      · have hf := hf.1 hc15
        refine lv_iconst (v := (0 : Int32)) hx hb dX8_readConstraint_126 (by decide) ?_
        exact ret _ _ _ _ (0 : Int32) (t_place, t_lettersTold, t_restTold, t_told_size, t_told_changes, t_told_cells) rfl hf hP hD hS dX8_readConstraint_127
      · have hf := hf.2 hc15
        refine lv_aload_n hx hb dX8_readConstraint_49 rfl (lv_at hl 0 rfl) ?_
        refine lv_iload_n hx hb dX8_readConstraint_50 rfl (lv_at hl 1 rfl) ?_
        refine lv_if_ne (tgt := 58) hx hb dX8_readConstraint_51 (by decide) (fun hc14 => ?_) (fun hc14 => ?_)
        · have hf := hf.2 hc14
          refine lv_iconst (v := (0 : Int32)) hx hb dX8_readConstraint_58 (by decide) ?_
          exact L59 x1 t_place t_lettersTold t_restTold t_told_changes t_told_cells (0 : Int32) _ _ _ hf hP hD hS hl
        · have hf := hf.1 hc14
          refine lv_iconst (v := (1 : Int32)) hx hb dX8_readConstraint_54 (by decide) ?_
          refine lv_goto (tgt := 59) hx hb dX8_readConstraint_55 (by decide) ?_
          exact L59 x1 t_place t_lettersTold t_restTold t_told_changes t_told_cells (1 : Int32) _ _ _ hf hP hD hS hl
  have L12 : ∀ (t_place : Int32) (t_lettersTold : Int32) (t_restTold : Int32) (t_told_size : Int32) (n : Nat) (x1 : Int32) (t_told_changes : Int32) (t_told_cells : Nat → Int32) (H : Heap) (locs : List Loc) (ls : Array Slot), gi3 (p_X8_readConstraint_12 t_length t_place t_lettersTold t_restTold t_letters t_told_size Q) n x1 t_told_changes t_told_cells → va_P (dC, dI) vwCl [(h_t, .inr (5, [.ref h_t_letters, .int t_length, .int t_place, .ref h_t_told, .int t_lettersTold, .int t_restTold])), (h_t_letters, .inl (cC, 130, .inl t_letters)), (h_t_told, .inr (6, [.ref h_t_told_cells, .int t_told_size, .int t_told_most, .int t_told_draw, .int t_told_changes])), (h_t_told_cells, .inl (cI, 48, .inl t_told_cells))] H → va_D A [(h_t, .inr (5, [.ref h_t_letters, .int t_length, .int t_place, .ref h_t_told, .int t_lettersTold, .int t_restTold])), (h_t_letters, .inl (cC, 130, .inl t_letters)), (h_t_told, .inr (6, [.ref h_t_told_cells, .int t_told_size, .int t_told_most, .int t_told_draw, .int t_told_changes])), (h_t_told_cells, .inl (cI, 48, .inl t_told_cells))] → va_S A s.heap H locs → lv_has ls 3 [(0, .ref h_t), (1, .int x1)] → W p l e rm_X8_readConstraint s m [.ref h_t].toArray below meth c H locs 0 0 QQ (F0 m 12 ls []) := by
    intro t_place t_lettersTold t_restTold t_told_size n
    induction n with
    | zero => intro x1 t_told_changes t_told_cells H locs ls hf; exact False.elim hf
    | succ n ih12 =>
      generalize hK12 : gi3 (p_X8_readConstraint_12 t_length t_place t_lettersTold t_restTold t_letters t_told_size Q) n = K12 at ih12
      intro x1 t_told_changes t_told_cells H locs ls hf hP hD hS hl
      have hf : p_X8_readConstraint_12 t_length t_place t_lettersTold t_restTold t_letters t_told_size Q (gi3 (p_X8_readConstraint_12 t_length t_place t_lettersTold t_restTold t_letters t_told_size Q) n) x1 t_told_changes t_told_cells := hf
      rw [hK12] at hf
      refine lv_iload_n hx hb dX8_readConstraint_12 rfl (lv_at hl 1 rfl) ?_
      refine lv_bipush (v := (6 : Int32)) hx hb dX8_readConstraint_13 (by decide) ?_
      refine lv_icmp_ge (tgt := 40) hx hb dX8_readConstraint_15 (by decide) (fun hc18 => ?_) (fun hc18 => ?_)
      · have hf := hf.1 hc18
        refine lv_iconst (v := (0 : Int32)) hx hb dX8_readConstraint_40 (by decide) ?_
        refine lv_istore_n (lv' := [(1, .int (0 : Int32)), (0, .ref h_t)]) hx hb dX8_readConstraint_41 rfl hl (by decide) rfl (fun ls hl => ?_)
        obtain ⟨n, hf⟩ := hf
        exact L42 t_told_size n (0 : Int32) t_place t_lettersTold t_restTold t_told_changes t_told_cells _ _ _ hf hP hD hS (lv_sub hl [1, 0] rfl)
      · have hf := hf.2 hc18
        refine lv_aload_n hx hb dX8_readConstraint_18 rfl (lv_at hl 0 rfl) ?_
        refine va_get (D := (dC, dI)) (ci := 5) (v := .ref h_t_told) (C := RX8) (T := TX8) (N := 6) hx hb hts hinX8 hown hK hP 0 rfl rfl 3 (by decide) q2 (fun _ h9 => h9) rfl dX8_readConstraint_19 ?_
        refine lv_aload_n hx hb dX8_readConstraint_22 rfl (lv_at hl 0 rfl) ?_
        refine va_get (D := (dC, dI)) (ci := 5) (v := .ref h_t_told) (C := RX8) (T := TX8) (N := 6) hx hb hts hinX8 hown hK hP 0 rfl rfl 3 (by decide) q2 (fun _ h9 => h9) rfl dX8_readConstraint_23 ?_
        refine va_get (D := (dC, dI)) (ci := 6) (v := .int t_told_size) (C := RX9) (T := TX9) (N := 5) hx hb hts hinX9 hown hK hP 2 rfl rfl 1 (by decide) q4 (fun _ h9 => h9) rfl dX8_readConstraint_26 ?_
        refine lv_iload_n hx hb dX8_readConstraint_29 rfl (lv_at hl 1 rfl) ?_
        refine lv_iconst (v := (0 : Int32)) hx hb dX8_readConstraint_30 (by decide) ?_
        refine gz_v (W1 := (fun u : Int32 × (Nat → Int32) => [(h_t_told, .inr (6, [.ref h_t_told_cells, .int t_told_size, .int t_told_most, .int t_told_draw, .int u.1])), (h_t_told_cells, .inl (cI, 48, .inl u.2))])) (wn := (fun u : Int32 × (Nat → Int32) => [(h_t, .inr (5, [.ref h_t_letters, .int t_length, .int t_place, .ref h_t_told, .int t_lettersTold, .int t_restTold])), (h_t_letters, .inl (cC, 130, .inl t_letters)), (h_t_told, .inr (6, [.ref h_t_told_cells, .int t_told_size, .int t_told_most, .int t_told_draw, .int u.1])), (h_t_told_cells, .inl (cI, 48, .inl u.2))])) (wr := [(h_t, .inr (5, [.ref h_t_letters, .int t_length, .int t_place, .ref h_t_told, .int t_lettersTold, .int t_restTold])), (h_t_letters, .inl (cC, 130, .inl t_letters))]) (va_runV (As := [.int t_told_size, .int x1, .int (0 : Int32)]) (rest := []) ⟨hx, hb, hml, hown, hts⟩ (c_X9_setCell l dC dI cI cJ cC cZ h_t_told h_t_told_cells H.size t_told_size t_told_most t_told_draw t_told_changes t_told_cells t_told_size x1 (0 : Int32) _ hf) (cwV 3 hts gX8_readConstraint_X9_setCell rfl rfl rfl (by decide +kernel) ⟨Nat.le_of_ble_eq_true rfl, Nat.le_of_ble_eq_true rfl⟩) ⟨gz_blind, va_recv hK hP (ci := 6) (q0 := 2) rfl rfl, gz_pre (gz_P_of hP (is := [2, 3]) (wc := [(h_t_told, .inr (6, [.ref h_t_told_cells, .int t_told_size, .int t_told_most, .int t_told_draw, .int t_told_changes])), (h_t_told_cells, .inl (cI, 48, .inl t_told_cells))]) rfl) hK (hD.sub [2, 3] (by decide) rfl) gz_N0⟩ rfl rfl hl.1 rfl (lv_room (Nat.le_of_ble_eq_true rfl)) dX8_readConstraint_31 ⟨Nat.le_refl _, Nat.le_refl _⟩) hP hD hS hA [2, 3] [0, 1] [0, 1, 2, 3] rfl rfl (by decide) (by decide) (fun _ => rfl) (by decide) (fun  u H locs hf hP hD hS => ?_)
        obtain ⟨y16, y17⟩ := u
        have hP : va_P (dC, dI) vwCl [(h_t, .inr (5, [.ref h_t_letters, .int t_length, .int t_place, .ref h_t_told, .int t_lettersTold, .int t_restTold])), (h_t_letters, .inl (cC, 130, .inl t_letters)), (h_t_told, .inr (6, [.ref h_t_told_cells, .int t_told_size, .int t_told_most, .int t_told_draw, .int y16])), (h_t_told_cells, .inl (cI, 48, .inl y17))] H := hP
        have hD : va_D A [(h_t, .inr (5, [.ref h_t_letters, .int t_length, .int t_place, .ref h_t_told, .int t_lettersTold, .int t_restTold])), (h_t_letters, .inl (cC, 130, .inl t_letters)), (h_t_told, .inr (6, [.ref h_t_told_cells, .int t_told_size, .int t_told_most, .int t_told_draw, .int y16])), (h_t_told_cells, .inl (cI, 48, .inl y17))] := hD
        refine lv_iinc (v := (x1 + (1 : Int32))) (lv' := [(1, .int (x1 + (1 : Int32))), (0, .ref h_t)]) hx hb dX8_readConstraint_34 hl (k := 1) rfl rfl (by decide) rfl (fun ls hl => ?_)
        refine lv_goto (tgt := 12) hx hb dX8_readConstraint_37 (by decide) ?_
        exact ih12 (x1 + (1 : Int32)) y16 y17 _ _ _ hf hP hD hS (lv_sub hl [1, 0] rfl)
  have hf := hw
  refine lv_aload_n hx hb dX8_readConstraint_0 rfl (lv_at hl 0 rfl) ?_
  refine lv_iconst (v := (0 : Int32)) hx hb dX8_readConstraint_1 (by decide) ?_
  refine va_put (D := (dC, dI)) (ci := 5) (v := .int (0 : Int32)) (ty := .int) (C := RX8) (T := TX8) (N := 6) hx hb hts hinX8 tyX8 tyX8_ok nmX8 hown hK hP hD hS 0 rfl rfl 4 (by decide) q0 (fun _ h9 => h9) rfl (by decide +kernel) rfl rfl (Nat.le_of_ble_eq_true rfl) dX8_readConstraint_2 (fun H locs hP hD hS => ?_)
  have hP : va_P (dC, dI) vwCl [(h_t, .inr (5, [.ref h_t_letters, .int t_length, .int t_place, .ref h_t_told, .int (0 : Int32), .int t_restTold])), (h_t_letters, .inl (cC, 130, .inl t_letters)), (h_t_told, .inr (6, [.ref h_t_told_cells, .int t_told_size, .int t_told_most, .int t_told_draw, .int t_told_changes])), (h_t_told_cells, .inl (cI, 48, .inl t_told_cells))] H := hP
  have hD : va_D A [(h_t, .inr (5, [.ref h_t_letters, .int t_length, .int t_place, .ref h_t_told, .int (0 : Int32), .int t_restTold])), (h_t_letters, .inl (cC, 130, .inl t_letters)), (h_t_told, .inr (6, [.ref h_t_told_cells, .int t_told_size, .int t_told_most, .int t_told_draw, .int t_told_changes])), (h_t_told_cells, .inl (cI, 48, .inl t_told_cells))] := hD
  refine lv_aload_n hx hb dX8_readConstraint_5 rfl (lv_at hl 0 rfl) ?_
  refine lv_iconst (v := (0 : Int32)) hx hb dX8_readConstraint_6 (by decide) ?_
  refine va_put (D := (dC, dI)) (ci := 5) (v := .int (0 : Int32)) (ty := .boolean) (C := RX8) (T := TX8) (N := 6) hx hb hts hinX8 tyX8 tyX8_ok nmX8 hown hK hP hD hS 0 rfl rfl 5 (by decide) q1 (fun _ h9 => h9) rfl (by decide +kernel) rfl rfl (Nat.le_of_ble_eq_true rfl) dX8_readConstraint_7 (fun H locs hP hD hS => ?_)
  have hP : va_P (dC, dI) vwCl [(h_t, .inr (5, [.ref h_t_letters, .int t_length, .int t_place, .ref h_t_told, .int (0 : Int32), .int (0 : Int32)])), (h_t_letters, .inl (cC, 130, .inl t_letters)), (h_t_told, .inr (6, [.ref h_t_told_cells, .int t_told_size, .int t_told_most, .int t_told_draw, .int t_told_changes])), (h_t_told_cells, .inl (cI, 48, .inl t_told_cells))] H := hP
  have hD : va_D A [(h_t, .inr (5, [.ref h_t_letters, .int t_length, .int t_place, .ref h_t_told, .int (0 : Int32), .int (0 : Int32)])), (h_t_letters, .inl (cC, 130, .inl t_letters)), (h_t_told, .inr (6, [.ref h_t_told_cells, .int t_told_size, .int t_told_most, .int t_told_draw, .int t_told_changes])), (h_t_told_cells, .inl (cI, 48, .inl t_told_cells))] := hD
  refine lv_iconst (v := (0 : Int32)) hx hb dX8_readConstraint_10 (by decide) ?_
  refine lv_istore_n (lv' := [(1, .int (0 : Int32)), (0, .ref h_t)]) hx hb dX8_readConstraint_11 rfl hl (by decide) rfl (fun ls hl => ?_)
  obtain ⟨n, hf⟩ := hf
  exact L12 t_place (0 : Int32) (0 : Int32) t_told_size n (0 : Int32) t_told_changes t_told_cells _ _ _ hf hP hD hS (lv_sub hl [1, 0] rfl)
abbrev rm_X8_read : Room := { frames := 4, cells := 0, slots := 0, locals := 91 }
set_option maxHeartbeats 4000000 in
set_option maxRecDepth 100000 in
theorem c_X8_read (l : Launch) (dC : Nat → ClassId) (dI : Nat → Nat → Nat) (cI cJ cC cZ : ClassId) (h_t h_t_letters h_t_told h_t_told_cells : Nat) (sz : Nat) (t_length : Int32) (t_place : Int32) (t_lettersTold : Int32) (t_restTold : Int32) (t_letters : Nat → Int32) (t_told_size : Int32) (t_told_most : Int32) (t_told_draw : Int32) (t_told_changes : Int32) (t_told_cells : Nat → Int32) (Q : Int32 → Int32 → Int32 → Int32 → Int32 → Int32 → Int32 → (Nat → Int32) → Prop) (hw : p_X8_read t_length t_place t_lettersTold t_restTold t_letters t_told_size t_told_most t_told_changes t_told_cells Q) : Met l yX8_read wsX8_read rm_X8_read (va_Pc [.ref h_t] (gz_B (dC, dI) (gz_T cI cJ cC cZ) [(RX8, 36, yX10_outside, "DarkShadows")] sz [(h_t, .inr (5, [.ref h_t_letters, .int t_length, .int t_place, .ref h_t_told, .int t_lettersTold, .int t_restTold])), (h_t_letters, .inl (cC, 130, .inl t_letters)), (h_t_told, .inr (6, [.ref h_t_told_cells, .int t_told_size, .int t_told_most, .int t_told_draw, .int t_told_changes])), (h_t_told_cells, .inl (cI, 48, .inl t_told_cells))])) (va_Qi (fun (r : Int32) (u : Int32 × Int32 × Int32 × Int32 × Int32 × Int32 × (Nat → Int32)) => Q r u.1 u.2.1 u.2.2.1 u.2.2.2.1 u.2.2.2.2.1 u.2.2.2.2.2.1 u.2.2.2.2.2.2) (fun u t => gz_E (dC, dI) (gz_T cI cJ cC cZ) (va_A [(h_t, .inr (5, [.ref h_t_letters, .int t_length, .int t_place, .ref h_t_told, .int t_lettersTold, .int t_restTold])), (h_t_letters, .inl (cC, 130, .inl t_letters)), (h_t_told, .inr (6, [.ref h_t_told_cells, .int t_told_size, .int t_told_most, .int t_told_draw, .int t_told_changes])), (h_t_told_cells, .inl (cI, 48, .inl t_told_cells))] sz) [(h_t, .inr (5, [.ref h_t_letters, .int t_length, .int u.1, .ref h_t_told, .int u.2.1, .int u.2.2.1])), (h_t_letters, .inl (cC, 130, .inl t_letters)), (h_t_told, .inr (6, [.ref h_t_told_cells, .int u.2.2.2.1, .int u.2.2.2.2.1, .int t_told_draw, .int u.2.2.2.2.2.1])), (h_t_told_cells, .inl (cI, 48, .inl u.2.2.2.2.2.2))] t) (va_A [(h_t, .inr (5, [.ref h_t_letters, .int t_length, .int t_place, .ref h_t_told, .int t_lettersTold, .int t_restTold])), (h_t_letters, .inl (cC, 130, .inl t_letters)), (h_t_told, .inr (6, [.ref h_t_told_cells, .int t_told_size, .int t_told_most, .int t_told_draw, .int t_told_changes])), (h_t_told_cells, .inl (cI, 48, .inl t_told_cells))] sz)) 0 0 (va_A [(h_t, .inr (5, [.ref h_t_letters, .int t_length, .int t_place, .ref h_t_told, .int t_lettersTold, .int t_restTold])), (h_t_letters, .inl (cC, 130, .inl t_letters)), (h_t_told, .inr (6, [.ref h_t_told_cells, .int t_told_size, .int t_told_most, .int t_told_draw, .int t_told_changes])), (h_t_told_cells, .inl (cI, 48, .inl t_told_cells))] sz) := by
  refine gz_mz (cc := cX8_read) (maxL := 4) (plainFor_of_name (by decide +kernel)) rfl (Nat.le_of_ble_eq_true rfl) ?_
  intro p e s m below meth c A QQ ls hx hb hml hown0 hts hK hN hA hP hD hS hl ret
  have hown : s.vm.findClass RX8 = some m.cls := hown0
  have hl : lv_has ls 4 [(0, .ref h_t)] := hl
  have q0 := hts (.fieldLink RX8 26 "DarkShadows$Tape" "place" "I") (List.mem_cons_of_mem _ (List.mem_append_left _ (List.mem_append_left _ (List.mem_append_left _ (List.mem_of_getElem? (i := 0) rfl)))))
  have q1 := hts (.fieldLink RX8 18 "DarkShadows$Tape" "told" "LDarkShadows$Told;") (List.mem_cons_of_mem _ (List.mem_append_left _ (List.mem_append_left _ (List.mem_append_left _ (List.mem_of_getElem? (i := 1) rfl)))))
  have hinX8 : ∀ w ∈ wsX80, w ∈ wsX8_read := fun w h => List.mem_cons_of_mem _ (List.mem_append_left _ (List.mem_append_right _ h))
  have q3 := hts (.fieldLink RX8 29 "DarkShadows$Told" "size" "I") (List.mem_cons_of_mem _ (List.mem_append_left _ (List.mem_append_left _ (List.mem_append_left _ (List.mem_of_getElem? (i := 2) rfl)))))
  have q4 := hts (.initialized RX10) (List.mem_cons_of_mem _ (List.mem_append_left _ (List.mem_append_left _ (List.mem_append_left _ (List.mem_of_getElem? (i := 11) rfl)))))
  have q5 := hts (.static yX10_outside) (List.mem_cons_of_mem _ (List.mem_append_left _ (List.mem_append_left _ (List.mem_append_left _ (List.mem_of_getElem? (i := 10) rfl)))))
  have hinX9 : ∀ w ∈ wsX90, w ∈ wsX8_read := fun w h => List.mem_cons_of_mem _ (List.mem_append_right _ h)
  have L54 : ∀ (t_told_most : Int32) (n : Nat) (x2 : Int32) (t_place : Int32) (t_lettersTold : Int32) (t_restTold : Int32) (t_told_size : Int32) (t_told_changes : Int32) (t_told_cells : Nat → Int32) (H : Heap) (locs : List Loc) (ls : Array Slot), gi7 (p_X8_read_54 t_length t_letters t_told_most Q) n x2 t_place t_lettersTold t_restTold t_told_size t_told_changes t_told_cells → va_P (dC, dI) vwCl [(h_t, .inr (5, [.ref h_t_letters, .int t_length, .int t_place, .ref h_t_told, .int t_lettersTold, .int t_restTold])), (h_t_letters, .inl (cC, 130, .inl t_letters)), (h_t_told, .inr (6, [.ref h_t_told_cells, .int t_told_size, .int t_told_most, .int t_told_draw, .int t_told_changes])), (h_t_told_cells, .inl (cI, 48, .inl t_told_cells))] H → va_D A [(h_t, .inr (5, [.ref h_t_letters, .int t_length, .int t_place, .ref h_t_told, .int t_lettersTold, .int t_restTold])), (h_t_letters, .inl (cC, 130, .inl t_letters)), (h_t_told, .inr (6, [.ref h_t_told_cells, .int t_told_size, .int t_told_most, .int t_told_draw, .int t_told_changes])), (h_t_told_cells, .inl (cI, 48, .inl t_told_cells))] → va_S A s.heap H locs → lv_has ls 4 [(0, .ref h_t), (2, .int x2)] → W p l e rm_X8_read s m [.ref h_t].toArray below meth c H locs 0 0 QQ (F0 m 54 ls []) := by
    intro t_told_most n
    induction n with
    | zero => intro x2 t_place t_lettersTold t_restTold t_told_size t_told_changes t_told_cells H locs ls hf; exact False.elim hf
    | succ n ih54 =>
      generalize hK54 : gi7 (p_X8_read_54 t_length t_letters t_told_most Q) n = K54 at ih54
      intro x2 t_place t_lettersTold t_restTold t_told_size t_told_changes t_told_cells H locs ls hf hP hD hS hl
      have hf : p_X8_read_54 t_length t_letters t_told_most Q (gi7 (p_X8_read_54 t_length t_letters t_told_most Q) n) x2 t_place t_lettersTold t_restTold t_told_size t_told_changes t_told_cells := hf
      rw [hK54] at hf
      refine lv_iload_n hx hb dX8_read_54 rfl (lv_at hl 1 rfl) ?_
      refine lv_bipush (v := (8 : Int32)) hx hb dX8_read_55 (by decide) ?_
      refine lv_icmp_gt (tgt := 111) hx hb dX8_read_57 (by decide) (fun hc19 => ?_) (fun hc19 => ?_)
      · have hf := hf.1 hc19
        refine lv_iconst (v := (0 : Int32)) hx hb dX8_read_111 (by decide) ?_
        exact ret _ _ _ _ (0 : Int32) (t_place, t_lettersTold, t_restTold, t_told_size, t_told_most, t_told_changes, t_told_cells) rfl hf hP hD hS dX8_read_112
      · have hf := hf.2 hc19
        refine lv_aload_n hx hb dX8_read_60 rfl (lv_at hl 0 rfl) ?_
        refine gz_i (W1 := (fun u : Int32 => [(h_t, .inr (5, [.ref h_t_letters, .int t_length, .int u, .ref h_t_told, .int t_lettersTold, .int t_restTold])), (h_t_letters, .inl (cC, 130, .inl t_letters))])) (wn := (fun u : Int32 => [(h_t, .inr (5, [.ref h_t_letters, .int t_length, .int u, .ref h_t_told, .int t_lettersTold, .int t_restTold])), (h_t_letters, .inl (cC, 130, .inl t_letters)), (h_t_told, .inr (6, [.ref h_t_told_cells, .int t_told_size, .int t_told_most, .int t_told_draw, .int t_told_changes])), (h_t_told_cells, .inl (cI, 48, .inl t_told_cells))])) (wr := [(h_t_told, .inr (6, [.ref h_t_told_cells, .int t_told_size, .int t_told_most, .int t_told_draw, .int t_told_changes])), (h_t_told_cells, .inl (cI, 48, .inl t_told_cells))]) (va_runV (As := []) (rest := []) ⟨hx, hb, hml, hown, hts⟩ (c_X8_next l dC dI cI cJ cC cZ h_t h_t_letters h_t_told H.size t_length t_place t_lettersTold t_restTold t_letters _ hf) (cwV 0 hts gX8_read_X8_next rfl rfl rfl (by decide +kernel) ⟨Nat.le_of_ble_eq_true rfl, Nat.le_of_ble_eq_true rfl⟩) ⟨gz_blind, va_recv hK hP (ci := 5) (q0 := 0) rfl rfl, gz_pre (gz_P_of hP (is := [0, 1]) (wc := [(h_t, .inr (5, [.ref h_t_letters, .int t_length, .int t_place, .ref h_t_told, .int t_lettersTold, .int t_restTold])), (h_t_letters, .inl (cC, 130, .inl t_letters))]) rfl) hK (hD.sub [0, 1] (by decide) rfl) gz_N0⟩ rfl rfl hl.1 rfl (lv_room (Nat.le_of_ble_eq_true rfl)) dX8_read_61 ⟨Nat.le_refl _, Nat.le_refl _⟩) hP hD hS hA [0, 1] [2, 3] [2, 3, 0, 1] rfl rfl (by decide) (by decide) (fun _ => rfl) (by decide) (fun r6 y7 H locs hf hP hD hS => ?_)
        have hP : va_P (dC, dI) vwCl [(h_t, .inr (5, [.ref h_t_letters, .int t_length, .int y7, .ref h_t_told, .int t_lettersTold, .int t_restTold])), (h_t_letters, .inl (cC, 130, .inl t_letters)), (h_t_told, .inr (6, [.ref h_t_told_cells, .int t_told_size, .int t_told_most, .int t_told_draw, .int t_told_changes])), (h_t_told_cells, .inl (cI, 48, .inl t_told_cells))] H := hP
        have hD : va_D A [(h_t, .inr (5, [.ref h_t_letters, .int t_length, .int y7, .ref h_t_told, .int t_lettersTold, .int t_restTold])), (h_t_letters, .inl (cC, 130, .inl t_letters)), (h_t_told, .inr (6, [.ref h_t_told_cells, .int t_told_size, .int t_told_most, .int t_told_draw, .int t_told_changes])), (h_t_told_cells, .inl (cI, 48, .inl t_told_cells))] := hD
        refine lv_istore_n (lv' := [(3, .int r6), (0, .ref h_t), (2, .int x2)]) hx hb dX8_read_64 rfl hl (by decide) rfl (fun ls hl => ?_)
        refine lv_iload_n hx hb dX8_read_65 rfl (lv_at hl 0 rfl) ?_
        refine lv_iconst (v := (-1 : Int32)) hx hb dX8_read_66 (by decide) ?_
        refine lv_icmp_ne (tgt := 72) hx hb dX8_read_67 (by decide) (fun hc18 => ?_) (fun hc18 => ?_)
        · have hf := hf.2 hc18
          refine lv_iload_n hx hb dX8_read_72 rfl (lv_at hl 0 rfl) ?_
          refine lv_bipush (v := (59 : Int32)) hx hb dX8_read_73 (by decide) ?_
          refine lv_icmp_ne (tgt := 84) hx hb dX8_read_75 (by decide) (fun hc17 => ?_) (fun hc17 => ?_)
          · have hf := hf.2 hc17
            refine lv_iconst (v := (0 : Int32)) hx hb dX8_read_84 (by decide) ?_
            exact ret _ _ _ _ (0 : Int32) (y7, t_lettersTold, t_restTold, t_told_size, t_told_most, t_told_changes, t_told_cells) rfl hf hP hD hS dX8_read_85
          · have hf := hf.1 hc17
            refine lv_iload_n hx hb dX8_read_78 rfl (lv_at hl 2 rfl) ?_
            refine lv_bipush (v := (8 : Int32)) hx hb dX8_read_79 (by decide) ?_
            refine lv_icmp_ne (tgt := 86) hx hb dX8_read_81 (by decide) (fun hc16 => ?_) (fun hc16 => ?_)
            · have hf := hf.2 hc16
              refine lv_aload_n hx hb dX8_read_86 rfl (lv_at hl 1 rfl) ?_
              refine lv_dup hx hb dX8_read_87 rfl ?_
              refine va_get (D := (dC, dI)) (ci := 5) (v := .int y7) (C := RX8) (T := TX8) (N := 6) hx hb hts hinX8 hown hK hP 0 rfl rfl 2 (by decide) q0 (fun _ h9 => h9) rfl dX8_read_88 ?_
              refine lv_iconst (v := (1 : Int32)) hx hb dX8_read_91 (by decide) ?_
              refine lv_iadd hx hb dX8_read_92 ?_
              refine va_put (D := (dC, dI)) (ci := 5) (v := .int (y7 + (1 : Int32))) (ty := .int) (C := RX8) (T := TX8) (N := 6) hx hb hts hinX8 tyX8 tyX8_ok nmX8 hown hK hP hD hS 0 rfl rfl 2 (by decide) q0 (fun _ h9 => h9) rfl (by decide +kernel) rfl rfl (Nat.le_of_ble_eq_true rfl) dX8_read_93 (fun H locs hP hD hS => ?_)
              have hP : va_P (dC, dI) vwCl [(h_t, .inr (5, [.ref h_t_letters, .int t_length, .int (y7 + (1 : Int32)), .ref h_t_told, .int t_lettersTold, .int t_restTold])), (h_t_letters, .inl (cC, 130, .inl t_letters)), (h_t_told, .inr (6, [.ref h_t_told_cells, .int t_told_size, .int t_told_most, .int t_told_draw, .int t_told_changes])), (h_t_told_cells, .inl (cI, 48, .inl t_told_cells))] H := hP
              have hD : va_D A [(h_t, .inr (5, [.ref h_t_letters, .int t_length, .int (y7 + (1 : Int32)), .ref h_t_told, .int t_lettersTold, .int t_restTold])), (h_t_letters, .inl (cC, 130, .inl t_letters)), (h_t_told, .inr (6, [.ref h_t_told_cells, .int t_told_size, .int t_told_most, .int t_told_draw, .int t_told_changes])), (h_t_told_cells, .inl (cI, 48, .inl t_told_cells))] := hD
              refine lv_aload_n hx hb dX8_read_96 rfl (lv_at hl 1 rfl) ?_
              refine gz_i (W1 := (fun u : Int32 × Int32 × Int32 × Int32 × Int32 × (Nat → Int32) => [(h_t, .inr (5, [.ref h_t_letters, .int t_length, .int u.1, .ref h_t_told, .int u.2.1, .int u.2.2.1])), (h_t_letters, .inl (cC, 130, .inl t_letters)), (h_t_told, .inr (6, [.ref h_t_told_cells, .int u.2.2.2.1, .int t_told_most, .int t_told_draw, .int u.2.2.2.2.1])), (h_t_told_cells, .inl (cI, 48, .inl u.2.2.2.2.2))])) (wn := (fun u : Int32 × Int32 × Int32 × Int32 × Int32 × (Nat → Int32) => [(h_t, .inr (5, [.ref h_t_letters, .int t_length, .int u.1, .ref h_t_told, .int u.2.1, .int u.2.2.1])), (h_t_letters, .inl (cC, 130, .inl t_letters)), (h_t_told, .inr (6, [.ref h_t_told_cells, .int u.2.2.2.1, .int t_told_most, .int t_told_draw, .int u.2.2.2.2.1])), (h_t_told_cells, .inl (cI, 48, .inl u.2.2.2.2.2))])) (wr := []) (va_runV (As := []) (rest := []) ⟨hx, hb, hml, hown, hts⟩ (c_X8_readConstraint l dC dI cI cJ cC cZ h_t h_t_letters h_t_told h_t_told_cells H.size t_length (y7 + (1 : Int32)) t_lettersTold t_restTold t_letters t_told_size t_told_most t_told_draw t_told_changes t_told_cells _ hf) (cwV 0 hts gX8_read_X8_readConstraint rfl rfl rfl (by decide +kernel) ⟨Nat.le_of_ble_eq_true rfl, Nat.le_of_ble_eq_true rfl⟩) ⟨gz_blind, va_recv hK hP (ci := 5) (q0 := 0) rfl rfl, gz_pre (gz_P_of hP (is := [0, 1, 2, 3]) (wc := [(h_t, .inr (5, [.ref h_t_letters, .int t_length, .int (y7 + (1 : Int32)), .ref h_t_told, .int t_lettersTold, .int t_restTold])), (h_t_letters, .inl (cC, 130, .inl t_letters)), (h_t_told, .inr (6, [.ref h_t_told_cells, .int t_told_size, .int t_told_most, .int t_told_draw, .int t_told_changes])), (h_t_told_cells, .inl (cI, 48, .inl t_told_cells))]) rfl) hK (hD.sub [0, 1, 2, 3] (by decide) rfl) hN⟩ rfl rfl hl.1 rfl (lv_room (Nat.le_of_ble_eq_true rfl)) dX8_read_97 ⟨Nat.le_refl _, Nat.le_refl _⟩) hP hD hS hA [0, 1, 2, 3] [] [0, 1, 2, 3] rfl rfl (by decide) (by decide) (fun _ => rfl) (by decide) (fun r8 u H locs hf hP hD hS => ?_)
              obtain ⟨y9, y10, y11, y12, y13, y14⟩ := u
              have hP : va_P (dC, dI) vwCl [(h_t, .inr (5, [.ref h_t_letters, .int t_length, .int y9, .ref h_t_told, .int y10, .int y11])), (h_t_letters, .inl (cC, 130, .inl t_letters)), (h_t_told, .inr (6, [.ref h_t_told_cells, .int y12, .int t_told_most, .int t_told_draw, .int y13])), (h_t_told_cells, .inl (cI, 48, .inl y14))] H := hP
              have hD : va_D A [(h_t, .inr (5, [.ref h_t_letters, .int t_length, .int y9, .ref h_t_told, .int y10, .int y11])), (h_t_letters, .inl (cC, 130, .inl t_letters)), (h_t_told, .inr (6, [.ref h_t_told_cells, .int y12, .int t_told_most, .int t_told_draw, .int y13])), (h_t_told_cells, .inl (cI, 48, .inl y14))] := hD
              refine lv_if_ne (tgt := 105) hx hb dX8_read_100 (by decide) (fun hc15 => ?_) (fun hc15 => ?_)
              · have hf := hf.2 hc15
                refine lv_iinc (v := (x2 + (1 : Int32))) (lv' := [(2, .int (x2 + (1 : Int32))), (3, .int r6), (0, .ref h_t)]) hx hb dX8_read_105 hl (k := 2) rfl rfl (by decide) rfl (fun ls hl => ?_)
                refine lv_goto (tgt := 54) hx hb dX8_read_108 (by decide) ?_
                exact ih54 (x2 + (1 : Int32)) y9 y10 y11 y12 y13 y14 _ _ _ hf hP hD hS (lv_sub hl [2, 0] rfl)
              · have hf := hf.1 hc15
                refine lv_iconst (v := (0 : Int32)) hx hb dX8_read_103 (by decide) ?_
                exact ret _ _ _ _ (0 : Int32) (y9, y10, y11, y12, t_told_most, y13, y14) rfl hf hP hD hS dX8_read_104
            · have hf := hf.1 hc16
              refine lv_iconst (v := (0 : Int32)) hx hb dX8_read_84 (by decide) ?_
              exact ret _ _ _ _ (0 : Int32) (y7, t_lettersTold, t_restTold, t_told_size, t_told_most, t_told_changes, t_told_cells) rfl hf hP hD hS dX8_read_85
        · have hf := hf.1 hc18
          refine lv_iconst (v := (1 : Int32)) hx hb dX8_read_70 (by decide) ?_
          exact ret _ _ _ _ (1 : Int32) (y7, t_lettersTold, t_restTold, t_told_size, t_told_most, t_told_changes, t_told_cells) rfl hf hP hD hS dX8_read_71
  have hf := hw
  refine lv_aload_n hx hb dX8_read_0 rfl (lv_at hl 0 rfl) ?_
  refine lv_iconst (v := (0 : Int32)) hx hb dX8_read_1 (by decide) ?_
  refine va_put (D := (dC, dI)) (ci := 5) (v := .int (0 : Int32)) (ty := .int) (C := RX8) (T := TX8) (N := 6) hx hb hts hinX8 tyX8 tyX8_ok nmX8 hown hK hP hD hS 0 rfl rfl 2 (by decide) q0 (fun _ h9 => h9) rfl (by decide +kernel) rfl rfl (Nat.le_of_ble_eq_true rfl) dX8_read_2 (fun H locs hP hD hS => ?_)
  have hP : va_P (dC, dI) vwCl [(h_t, .inr (5, [.ref h_t_letters, .int t_length, .int (0 : Int32), .ref h_t_told, .int t_lettersTold, .int t_restTold])), (h_t_letters, .inl (cC, 130, .inl t_letters)), (h_t_told, .inr (6, [.ref h_t_told_cells, .int t_told_size, .int t_told_most, .int t_told_draw, .int t_told_changes])), (h_t_told_cells, .inl (cI, 48, .inl t_told_cells))] H := hP
  have hD : va_D A [(h_t, .inr (5, [.ref h_t_letters, .int t_length, .int (0 : Int32), .ref h_t_told, .int t_lettersTold, .int t_restTold])), (h_t_letters, .inl (cC, 130, .inl t_letters)), (h_t_told, .inr (6, [.ref h_t_told_cells, .int t_told_size, .int t_told_most, .int t_told_draw, .int t_told_changes])), (h_t_told_cells, .inl (cI, 48, .inl t_told_cells))] := hD
  refine lv_aload_n hx hb dX8_read_5 rfl (lv_at hl 0 rfl) ?_
  refine va_get (D := (dC, dI)) (ci := 5) (v := .ref h_t_told) (C := RX8) (T := TX8) (N := 6) hx hb hts hinX8 hown hK hP 0 rfl rfl 3 (by decide) q1 (fun _ h9 => h9) rfl dX8_read_6 ?_
  refine lv_iconst (v := (0 : Int32)) hx hb dX8_read_9 (by decide) ?_
  refine va_put (D := (dC, dI)) (ci := 6) (v := .int (0 : Int32)) (ty := .int) (C := RX9) (T := TX9) (N := 5) hx hb hts hinX9 tyX9 tyX9_ok nmX9 hown hK hP hD hS 2 rfl rfl 1 (by decide) q3 (fun _ h9 => h9) rfl (by decide +kernel) rfl rfl (Nat.le_of_ble_eq_true rfl) dX8_read_10 (fun H locs hP hD hS => ?_)
  have hP : va_P (dC, dI) vwCl [(h_t, .inr (5, [.ref h_t_letters, .int t_length, .int (0 : Int32), .ref h_t_told, .int t_lettersTold, .int t_restTold])), (h_t_letters, .inl (cC, 130, .inl t_letters)), (h_t_told, .inr (6, [.ref h_t_told_cells, .int (0 : Int32), .int t_told_most, .int t_told_draw, .int t_told_changes])), (h_t_told_cells, .inl (cI, 48, .inl t_told_cells))] H := hP
  have hD : va_D A [(h_t, .inr (5, [.ref h_t_letters, .int t_length, .int (0 : Int32), .ref h_t_told, .int t_lettersTold, .int t_restTold])), (h_t_letters, .inl (cC, 130, .inl t_letters)), (h_t_told, .inr (6, [.ref h_t_told_cells, .int (0 : Int32), .int t_told_most, .int t_told_draw, .int t_told_changes])), (h_t_told_cells, .inl (cI, 48, .inl t_told_cells))] := hD
  refine lv_aload_n hx hb dX8_read_13 rfl (lv_at hl 0 rfl) ?_
  refine gz_i (W1 := (fun u : Int32 => [(h_t, .inr (5, [.ref h_t_letters, .int t_length, .int u, .ref h_t_told, .int t_lettersTold, .int t_restTold])), (h_t_letters, .inl (cC, 130, .inl t_letters))])) (wn := (fun u : Int32 => [(h_t, .inr (5, [.ref h_t_letters, .int t_length, .int u, .ref h_t_told, .int t_lettersTold, .int t_restTold])), (h_t_letters, .inl (cC, 130, .inl t_letters)), (h_t_told, .inr (6, [.ref h_t_told_cells, .int (0 : Int32), .int t_told_most, .int t_told_draw, .int t_told_changes])), (h_t_told_cells, .inl (cI, 48, .inl t_told_cells))])) (wr := [(h_t_told, .inr (6, [.ref h_t_told_cells, .int (0 : Int32), .int t_told_most, .int t_told_draw, .int t_told_changes])), (h_t_told_cells, .inl (cI, 48, .inl t_told_cells))]) (va_runV (As := []) (rest := []) ⟨hx, hb, hml, hown, hts⟩ (c_X8_next l dC dI cI cJ cC cZ h_t h_t_letters h_t_told H.size t_length (0 : Int32) t_lettersTold t_restTold t_letters _ hf) (cwV 0 hts gX8_read_X8_next rfl rfl rfl (by decide +kernel) ⟨Nat.le_of_ble_eq_true rfl, Nat.le_of_ble_eq_true rfl⟩) ⟨gz_blind, va_recv hK hP (ci := 5) (q0 := 0) rfl rfl, gz_pre (gz_P_of hP (is := [0, 1]) (wc := [(h_t, .inr (5, [.ref h_t_letters, .int t_length, .int (0 : Int32), .ref h_t_told, .int t_lettersTold, .int t_restTold])), (h_t_letters, .inl (cC, 130, .inl t_letters))]) rfl) hK (hD.sub [0, 1] (by decide) rfl) gz_N0⟩ rfl rfl hl.1 rfl (lv_room (Nat.le_of_ble_eq_true rfl)) dX8_read_14 ⟨Nat.le_refl _, Nat.le_refl _⟩) hP hD hS hA [0, 1] [2, 3] [2, 3, 0, 1] rfl rfl (by decide) (by decide) (fun _ => rfl) (by decide) (fun r1 y2 H locs hf hP hD hS => ?_)
  have hP : va_P (dC, dI) vwCl [(h_t, .inr (5, [.ref h_t_letters, .int t_length, .int y2, .ref h_t_told, .int t_lettersTold, .int t_restTold])), (h_t_letters, .inl (cC, 130, .inl t_letters)), (h_t_told, .inr (6, [.ref h_t_told_cells, .int (0 : Int32), .int t_told_most, .int t_told_draw, .int t_told_changes])), (h_t_told_cells, .inl (cI, 48, .inl t_told_cells))] H := hP
  have hD : va_D A [(h_t, .inr (5, [.ref h_t_letters, .int t_length, .int y2, .ref h_t_told, .int t_lettersTold, .int t_restTold])), (h_t_letters, .inl (cC, 130, .inl t_letters)), (h_t_told, .inr (6, [.ref h_t_told_cells, .int (0 : Int32), .int t_told_most, .int t_told_draw, .int t_told_changes])), (h_t_told_cells, .inl (cI, 48, .inl t_told_cells))] := hD
  refine lv_istore_n (lv' := [(1, .int r1), (0, .ref h_t)]) hx hb dX8_read_17 rfl hl (by decide) rfl (fun ls hl => ?_)
  refine lv_iload_n hx hb dX8_read_18 rfl (lv_at hl 0 rfl) ?_
  refine lv_bipush (v := (49 : Int32)) hx hb dX8_read_19 (by decide) ?_
  refine lv_bipush (v := (55 : Int32)) hx hb dX8_read_21 (by decide) ?_
  refine gz_i0 (va_runSN (As := [.int r1, .int (49 : Int32), .int (55 : Int32)]) (rest := []) ⟨hx, hb, hml, hown, hts⟩ (c_X10_outside l dC dI cI cJ cC cZ H.size r1 (49 : Int32) (55 : Int32) _ hf) ⟨va_cnB 3 hts gX8_read_X10_outside_n36 rfl rfl rfl (hN.at 0 rfl) q4 (by decide +kernel) ⟨Nat.le_of_ble_eq_true rfl, Nat.le_of_ble_eq_true rfl⟩, q5, trivial⟩ ⟨gz_blind, gz_pre (gz_P_of hP (is := []) (wc := []) rfl) hK (hD.sub [] (by decide) rfl) gz_N0⟩ rfl rfl hl.1 rfl (lv_room (Nat.le_of_ble_eq_true rfl)) dX8_read_23 ⟨Nat.le_refl _, Nat.le_refl _⟩) hP hD hS hA (fun r3 H locs hf hP hS => ?_)
  refine lv_if_eq (tgt := 31) hx hb dX8_read_26 (by decide) (fun hc20 => ?_) (fun hc20 => ?_)
  · have hf := hf.1 hc20
    refine lv_aload_n hx hb dX8_read_31 rfl (lv_at hl 1 rfl) ?_
    refine va_get (D := (dC, dI)) (ci := 5) (v := .ref h_t_told) (C := RX8) (T := TX8) (N := 6) hx hb hts hinX8 hown hK hP 0 rfl rfl 3 (by decide) q1 (fun _ h9 => h9) rfl dX8_read_32 ?_
    refine lv_iload_n hx hb dX8_read_35 rfl (lv_at hl 0 rfl) ?_
    refine lv_bipush (v := (48 : Int32)) hx hb dX8_read_36 (by decide) ?_
    refine lv_isub hx hb dX8_read_38 ?_
    refine gz_v (W1 := (fun u : Int32 × Int32 => [(h_t_told, .inr (6, [.ref h_t_told_cells, .int (0 : Int32), .int u.1, .int t_told_draw, .int u.2]))])) (wn := (fun u : Int32 × Int32 => [(h_t, .inr (5, [.ref h_t_letters, .int t_length, .int y2, .ref h_t_told, .int t_lettersTold, .int t_restTold])), (h_t_letters, .inl (cC, 130, .inl t_letters)), (h_t_told, .inr (6, [.ref h_t_told_cells, .int (0 : Int32), .int u.1, .int t_told_draw, .int u.2])), (h_t_told_cells, .inl (cI, 48, .inl t_told_cells))])) (wr := [(h_t, .inr (5, [.ref h_t_letters, .int t_length, .int y2, .ref h_t_told, .int t_lettersTold, .int t_restTold])), (h_t_letters, .inl (cC, 130, .inl t_letters)), (h_t_told_cells, .inl (cI, 48, .inl t_told_cells))]) (va_runV (As := [.int (r1 - (48 : Int32))]) (rest := []) ⟨hx, hb, hml, hown, hts⟩ (c_X9_setMost l dC dI cI cJ cC cZ h_t_told h_t_told_cells H.size (0 : Int32) t_told_most t_told_draw t_told_changes (r1 - (48 : Int32)) _ hf) (cwV 1 hts gX8_read_X9_setMost rfl rfl rfl (by decide +kernel) ⟨Nat.le_of_ble_eq_true rfl, Nat.le_of_ble_eq_true rfl⟩) ⟨gz_blind, va_recv hK hP (ci := 6) (q0 := 2) rfl rfl, gz_pre (gz_P_of hP (is := [2]) (wc := [(h_t_told, .inr (6, [.ref h_t_told_cells, .int (0 : Int32), .int t_told_most, .int t_told_draw, .int t_told_changes]))]) rfl) hK (hD.sub [2] (by decide) rfl) gz_N0⟩ rfl rfl hl.1 rfl (lv_room (Nat.le_of_ble_eq_true rfl)) dX8_read_39 ⟨Nat.le_refl _, Nat.le_refl _⟩) hP hD hS hA [2] [0, 1, 3] [0, 1, 3, 2] rfl rfl (by decide) (by decide) (fun _ => rfl) (by decide) (fun  u H locs hf hP hD hS => ?_)
    obtain ⟨y4, y5⟩ := u
    have hP : va_P (dC, dI) vwCl [(h_t, .inr (5, [.ref h_t_letters, .int t_length, .int y2, .ref h_t_told, .int t_lettersTold, .int t_restTold])), (h_t_letters, .inl (cC, 130, .inl t_letters)), (h_t_told, .inr (6, [.ref h_t_told_cells, .int (0 : Int32), .int y4, .int t_told_draw, .int y5])), (h_t_told_cells, .inl (cI, 48, .inl t_told_cells))] H := hP
    have hD : va_D A [(h_t, .inr (5, [.ref h_t_letters, .int t_length, .int y2, .ref h_t_told, .int t_lettersTold, .int t_restTold])), (h_t_letters, .inl (cC, 130, .inl t_letters)), (h_t_told, .inr (6, [.ref h_t_told_cells, .int (0 : Int32), .int y4, .int t_told_draw, .int y5])), (h_t_told_cells, .inl (cI, 48, .inl t_told_cells))] := hD
    refine lv_aload_n hx hb dX8_read_42 rfl (lv_at hl 1 rfl) ?_
    refine lv_dup hx hb dX8_read_43 rfl ?_
    refine va_get (D := (dC, dI)) (ci := 5) (v := .int y2) (C := RX8) (T := TX8) (N := 6) hx hb hts hinX8 hown hK hP 0 rfl rfl 2 (by decide) q0 (fun _ h9 => h9) rfl dX8_read_44 ?_
    refine lv_iconst (v := (1 : Int32)) hx hb dX8_read_47 (by decide) ?_
    refine lv_iadd hx hb dX8_read_48 ?_
    refine va_put (D := (dC, dI)) (ci := 5) (v := .int (y2 + (1 : Int32))) (ty := .int) (C := RX8) (T := TX8) (N := 6) hx hb hts hinX8 tyX8 tyX8_ok nmX8 hown hK hP hD hS 0 rfl rfl 2 (by decide) q0 (fun _ h9 => h9) rfl (by decide +kernel) rfl rfl (Nat.le_of_ble_eq_true rfl) dX8_read_49 (fun H locs hP hD hS => ?_)
    have hP : va_P (dC, dI) vwCl [(h_t, .inr (5, [.ref h_t_letters, .int t_length, .int (y2 + (1 : Int32)), .ref h_t_told, .int t_lettersTold, .int t_restTold])), (h_t_letters, .inl (cC, 130, .inl t_letters)), (h_t_told, .inr (6, [.ref h_t_told_cells, .int (0 : Int32), .int y4, .int t_told_draw, .int y5])), (h_t_told_cells, .inl (cI, 48, .inl t_told_cells))] H := hP
    have hD : va_D A [(h_t, .inr (5, [.ref h_t_letters, .int t_length, .int (y2 + (1 : Int32)), .ref h_t_told, .int t_lettersTold, .int t_restTold])), (h_t_letters, .inl (cC, 130, .inl t_letters)), (h_t_told, .inr (6, [.ref h_t_told_cells, .int (0 : Int32), .int y4, .int t_told_draw, .int y5])), (h_t_told_cells, .inl (cI, 48, .inl t_told_cells))] := hD
    refine lv_iconst (v := (0 : Int32)) hx hb dX8_read_52 (by decide) ?_
    refine lv_istore_n (lv' := [(2, .int (0 : Int32)), (1, .int r1), (0, .ref h_t)]) hx hb dX8_read_53 rfl hl (by decide) rfl (fun ls hl => ?_)
    obtain ⟨n, hf⟩ := hf
    exact L54 y4 n (0 : Int32) (y2 + (1 : Int32)) t_lettersTold t_restTold (0 : Int32) y5 t_told_cells _ _ _ hf hP hD hS (lv_sub hl [2, 0] rfl)
  · have hf := hf.2 hc20
    refine lv_iconst (v := (0 : Int32)) hx hb dX8_read_29 (by decide) ?_
    exact ret _ _ _ _ (0 : Int32) (y2, t_lettersTold, t_restTold, (0 : Int32), t_told_most, t_told_changes, t_told_cells) rfl hf hP hD hS dX8_read_30
abbrev rm_X9_areFactors : Room := { frames := 1, cells := 0, slots := 0, locals := 22 }
set_option maxHeartbeats 4000000 in
set_option maxRecDepth 100000 in
theorem c_X9_areFactors (l : Launch) (dC : Nat → ClassId) (dI : Nat → Nat → Nat) (cI cJ cC cZ : ClassId) (sz : Nat) (x0 : Int32) (Q : Int32 → Prop) (hw : p_X9_areFactors x0 Q) : Met l yX9_areFactors wsX9_areFactors rm_X9_areFactors (va_Pc [.int x0] (gz_B (dC, dI) (gz_T cI cJ cC cZ) [(RX9, 23, yX10_outside, "DarkShadows")] sz [])) (va_Qi (fun (r : Int32) (u : Unit) => Q r) (fun u t => gz_E (dC, dI) (gz_T cI cJ cC cZ) (va_A [] sz) [] t) (va_A [] sz)) 0 0 (va_A [] sz) := by
  refine gz_mz (cc := cX9_areFactors) (maxL := 3) (plainFor_of_name (by decide +kernel)) rfl (Nat.le_of_ble_eq_true rfl) ?_
  intro p e s m below meth c A QQ ls hx hb hml hown0 hts hK hN hA hP hD hS hl ret
  have hown : s.vm.findClass RX9 = some m.cls := hown0
  have hl : lv_has ls 3 [(0, .int x0)] := hl
  have q0 := hts (.constant RX9 22 (159999)) (List.mem_cons_of_mem _ (List.mem_of_getElem? (i := 0) rfl))
  have q1 := hts (.initialized RX10) (List.mem_cons_of_mem _ (List.mem_of_getElem? (i := 2) rfl))
  have q2 := hts (.static yX10_outside) (List.mem_cons_of_mem _ (List.mem_of_getElem? (i := 1) rfl))
  have L16 : ∀ (n : Nat) (x1 : Int32) (x2 : Int32) (H : Heap) (locs : List Loc) (ls : Array Slot), gi2 (p_X9_areFactors_16 Q) n x1 x2 → va_P (dC, dI) vwCl [] H → va_D A [] → va_S A s.heap H locs → lv_has ls 3 [(1, .int x1), (2, .int x2)] → W p l e rm_X9_areFactors s m [.int x0].toArray below meth c H locs 0 0 QQ (F0 m 16 ls []) := by
    intro  n
    induction n with
    | zero => intro x1 x2 H locs ls hf; exact False.elim hf
    | succ n ih16 =>
      generalize hK16 : gi2 (p_X9_areFactors_16 Q) n = K16 at ih16
      intro x1 x2 H locs ls hf hP hD hS hl
      have hf : p_X9_areFactors_16 Q (gi2 (p_X9_areFactors_16 Q) n) x1 x2 := hf
      rw [hK16] at hf
      refine lv_iload_n hx hb dX9_areFactors_16 rfl (lv_at hl 1 rfl) ?_
      refine lv_iconst (v := (4 : Int32)) hx hb dX9_areFactors_17 (by decide) ?_
      refine lv_icmp_ge (tgt := 43) hx hb dX9_areFactors_18 (by decide) (fun hc3 => ?_) (fun hc3 => ?_)
      · have hf := hf.1 hc3
        refine lv_iconst (v := (1 : Int32)) hx hb dX9_areFactors_43 (by decide) ?_
        exact ret _ _ _ _ (1 : Int32) () rfl hf hP hD hS dX9_areFactors_44
      · have hf := hf.2 hc3
        refine lv_iload_n hx hb dX9_areFactors_21 rfl (lv_at hl 0 rfl) ?_
        refine lv_bipush (v := (20 : Int32)) hx hb dX9_areFactors_22 (by decide) ?_
        refine lv_irem hx hb dX9_areFactors_24 (by decide) ?_
        refine lv_bipush (v := (18 : Int32)) hx hb dX9_areFactors_25 (by decide) ?_
        refine lv_icmp_le (tgt := 32) hx hb dX9_areFactors_27 (by decide) (fun hc2 => ?_) (fun hc2 => ?_)
        · have hf := hf.1 hc2
          refine lv_iload_n hx hb dX9_areFactors_32 rfl (lv_at hl 0 rfl) ?_
          refine lv_bipush (v := (20 : Int32)) hx hb dX9_areFactors_33 (by decide) ?_
          refine lv_idiv hx hb dX9_areFactors_35 (by decide) ?_
          refine lv_istore_n (lv' := [(1, .int (x1 / (20 : Int32))), (2, .int x2)]) hx hb dX9_areFactors_36 rfl hl (by decide) rfl (fun ls hl => ?_)
          refine lv_iinc (v := (x2 + (1 : Int32))) (lv' := [(2, .int (x2 + (1 : Int32))), (1, .int (x1 / (20 : Int32)))]) hx hb dX9_areFactors_37 hl (k := 1) rfl rfl (by decide) rfl (fun ls hl => ?_)
          refine lv_goto (tgt := 16) hx hb dX9_areFactors_40 (by decide) ?_
          exact ih16 (x1 / (20 : Int32)) (x2 + (1 : Int32)) _ _ _ hf hP hD hS (lv_sub hl [1, 0] rfl)
        · have hf := hf.2 hc2
          refine lv_iconst (v := (0 : Int32)) hx hb dX9_areFactors_30 (by decide) ?_
          exact ret _ _ _ _ (0 : Int32) () rfl hf hP hD hS dX9_areFactors_31
  have hf := hw
  refine lv_iload_n hx hb dX9_areFactors_0 rfl (lv_at hl 0 rfl) ?_
  refine lv_iconst (v := (0 : Int32)) hx hb dX9_areFactors_1 (by decide) ?_
  refine lv_ldc (v := (159999 : Int32)) hx hb hown q0 dX9_areFactors_2 ?_
  refine gz_i0 (va_runSN (As := [.int x0, .int (0 : Int32), .int (159999 : Int32)]) (rest := []) ⟨hx, hb, hml, hown, hts⟩ (c_X10_outside l dC dI cI cJ cC cZ s.heap.size x0 (0 : Int32) (159999 : Int32) _ hf) ⟨va_cnB 3 hts gX9_areFactors_X10_outside_n23 rfl rfl rfl (hN.at 0 rfl) q1 (by decide +kernel) ⟨Nat.le_of_ble_eq_true rfl, Nat.le_of_ble_eq_true rfl⟩, q2, trivial⟩ ⟨gz_blind, gz_pre (gz_P_of hP (is := []) (wc := []) rfl) hK (hD.sub [] (by decide) rfl) gz_N0⟩ rfl rfl hl.1 rfl (lv_room (Nat.le_of_ble_eq_true rfl)) dX9_areFactors_4 ⟨Nat.le_refl _, Nat.le_refl _⟩) hP hD hS hA (fun r1 H locs hf hP hS => ?_)
  refine lv_if_eq (tgt := 12) hx hb dX9_areFactors_7 (by decide) (fun hc4 => ?_) (fun hc4 => ?_)
  · have hf := hf.1 hc4
    refine lv_iload_n hx hb dX9_areFactors_12 rfl (lv_at hl 0 rfl) ?_
    refine lv_istore_n (lv' := [(1, .int x0), (0, .int x0)]) hx hb dX9_areFactors_13 rfl hl (by decide) rfl (fun ls hl => ?_)
    refine lv_iconst (v := (0 : Int32)) hx hb dX9_areFactors_14 (by decide) ?_
    refine lv_istore_n (lv' := [(2, .int (0 : Int32)), (1, .int x0), (0, .int x0)]) hx hb dX9_areFactors_15 rfl hl (by decide) rfl (fun ls hl => ?_)
    obtain ⟨n, hf⟩ := hf
    exact L16  n x0 (0 : Int32) _ _ _ hf hP hD hS (lv_sub hl [1, 0] rfl)
  · have hf := hf.2 hc4
    refine lv_iconst (v := (0 : Int32)) hx hb dX9_areFactors_10 (by decide) ?_
    exact ret _ _ _ _ (0 : Int32) () rfl hf hP hD hS dX9_areFactors_11
abbrev rm_X9_append : Room := { frames := 1, cells := 0, slots := 0, locals := 23 }
set_option maxHeartbeats 4000000 in
set_option maxRecDepth 100000 in
theorem c_X9_append (l : Launch) (dC : Nat → ClassId) (dI : Nat → Nat → Nat) (cI cJ cC cZ : ClassId) (h_t h_t_cells : Nat) (sz : Nat) (t_size : Int32) (t_most : Int32) (t_draw : Int32) (t_changes : Int32) (t_cells : Nat → Int32) (x1 : Int32) (x2 : Int32) (x3 : Int32) (Q : Int32 → Int32 → (Nat → Int32) → Prop) (hw : p_X9_append t_size t_changes t_cells x1 x2 x3 Q) : Met l yX9_append wsX9_append rm_X9_append (va_Pc [.ref h_t, .int x1, .int x2, .int x3] (gz_B (dC, dI) (gz_T cI cJ cC cZ) [] sz [(h_t, .inr (6, [.ref h_t_cells, .int t_size, .int t_most, .int t_draw, .int t_changes])), (h_t_cells, .inl (cI, 48, .inl t_cells))])) (va_Qv (fun (u : Int32 × Int32 × (Nat → Int32)) => Q u.1 u.2.1 u.2.2) (fun u t => gz_E (dC, dI) (gz_T cI cJ cC cZ) (va_A [(h_t, .inr (6, [.ref h_t_cells, .int t_size, .int t_most, .int t_draw, .int t_changes])), (h_t_cells, .inl (cI, 48, .inl t_cells))] sz) [(h_t, .inr (6, [.ref h_t_cells, .int u.1, .int t_most, .int t_draw, .int u.2.1])), (h_t_cells, .inl (cI, 48, .inl u.2.2))] t) (va_A [(h_t, .inr (6, [.ref h_t_cells, .int t_size, .int t_most, .int t_draw, .int t_changes])), (h_t_cells, .inl (cI, 48, .inl t_cells))] sz)) 0 0 (va_A [(h_t, .inr (6, [.ref h_t_cells, .int t_size, .int t_most, .int t_draw, .int t_changes])), (h_t_cells, .inl (cI, 48, .inl t_cells))] sz) := by
  refine gz_mv (cc := cX9_append) (maxL := 6) (plainFor_of_name (by decide +kernel)) rfl (Nat.le_of_ble_eq_true rfl) ?_
  intro p e s m below meth c A QQ ls hx hb hml hown0 hts hK hN hA hP hD hS hl ret
  have hown : s.vm.findClass RX9 = some m.cls := hown0
  have hl : lv_has ls 6 [(0, .ref h_t), (1, .int x1), (2, .int x2), (3, .int x3)] := hl
  have q0 := hts (.fieldLink RX9 30 "DarkShadows$Told" "size" "I") (List.mem_cons_of_mem _ (List.mem_append_left _ (List.mem_of_getElem? (i := 0) rfl)))
  have hinX9 : ∀ w ∈ wsX90, w ∈ wsX9_append := fun w h => List.mem_cons_of_mem _ (List.mem_append_right _ h)
  have L6 : ∀ (t_size : Int32) (n : Nat) (x4 : Int32) (x5 : Int32) (t_changes : Int32) (t_cells : Nat → Int32) (H : Heap) (locs : List Loc) (ls : Array Slot), gi4 (p_X9_append_6 t_size x1 x3 Q) n x4 x5 t_changes t_cells → va_P (dC, dI) vwCl [(h_t, .inr (6, [.ref h_t_cells, .int t_size, .int t_most, .int t_draw, .int t_changes])), (h_t_cells, .inl (cI, 48, .inl t_cells))] H → va_D A [(h_t, .inr (6, [.ref h_t_cells, .int t_size, .int t_most, .int t_draw, .int t_changes])), (h_t_cells, .inl (cI, 48, .inl t_cells))] → va_S A s.heap H locs → lv_has ls 6 [(0, .ref h_t), (1, .int x1), (3, .int x3), (4, .int x4), (5, .int x5)] → W p l e rm_X9_append s m [.ref h_t, .int x1, .int x2, .int x3].toArray below meth c H locs 0 0 QQ (F0 m 6 ls []) := by
    intro t_size n
    induction n with
    | zero => intro x4 x5 t_changes t_cells H locs ls hf; exact False.elim hf
    | succ n ih6 =>
      generalize hK6 : gi4 (p_X9_append_6 t_size x1 x3 Q) n = K6 at ih6
      intro x4 x5 t_changes t_cells H locs ls hf hP hD hS hl
      have hf : p_X9_append_6 t_size x1 x3 Q (gi4 (p_X9_append_6 t_size x1 x3 Q) n) x4 x5 t_changes t_cells := hf
      rw [hK6] at hf
      refine lv_iload hx hb dX9_append_6 (lv_at hl 4 rfl) ?_
      refine lv_if_lt (tgt := 42) hx hb dX9_append_8 (by decide) (fun hc7 => ?_) (fun hc7 => ?_)
      · have hf := hf.1 hc7
        refine lv_aload_n hx hb dX9_append_42 rfl (lv_at hl 0 rfl) ?_
        refine lv_aload_n hx hb dX9_append_43 rfl (lv_at hl 0 rfl) ?_
        refine va_get (D := (dC, dI)) (ci := 6) (v := .int t_size) (C := RX9) (T := TX9) (N := 5) hx hb hts hinX9 hown hK hP 0 rfl rfl 1 (by decide) q0 (fun _ h9 => h9) rfl dX9_append_44 ?_
        refine lv_iconst (v := (4 : Int32)) hx hb dX9_append_47 (by decide) ?_
        refine lv_iload_n hx hb dX9_append_48 rfl (lv_at hl 2 rfl) ?_
        refine gz_v (W1 := (fun u : Int32 × (Nat → Int32) => [(h_t, .inr (6, [.ref h_t_cells, .int t_size, .int t_most, .int t_draw, .int u.1])), (h_t_cells, .inl (cI, 48, .inl u.2))])) (wn := (fun u : Int32 × (Nat → Int32) => [(h_t, .inr (6, [.ref h_t_cells, .int t_size, .int t_most, .int t_draw, .int u.1])), (h_t_cells, .inl (cI, 48, .inl u.2))])) (wr := []) (va_runV (As := [.int t_size, .int (4 : Int32), .int x3]) (rest := []) ⟨hx, hb, hml, hown, hts⟩ (c_X9_setCell l dC dI cI cJ cC cZ h_t h_t_cells H.size t_size t_most t_draw t_changes t_cells t_size (4 : Int32) x3 _ hf) (cwV 3 hts gX9_append_X9_setCell rfl rfl rfl (by decide +kernel) ⟨Nat.le_of_ble_eq_true rfl, Nat.le_of_ble_eq_true rfl⟩) ⟨gz_blind, va_recv hK hP (ci := 6) (q0 := 0) rfl rfl, gz_pre (gz_P_of hP (is := [0, 1]) (wc := [(h_t, .inr (6, [.ref h_t_cells, .int t_size, .int t_most, .int t_draw, .int t_changes])), (h_t_cells, .inl (cI, 48, .inl t_cells))]) rfl) hK (hD.sub [0, 1] (by decide) rfl) gz_N0⟩ rfl rfl hl.1 rfl (lv_room (Nat.le_of_ble_eq_true rfl)) dX9_append_49 ⟨Nat.le_refl _, Nat.le_refl _⟩) hP hD hS hA [0, 1] [] [0, 1] rfl rfl (by decide) (by decide) (fun _ => rfl) (by decide) (fun  u H locs hf hP hD hS => ?_)
        obtain ⟨y1, y2⟩ := u
        have hP : va_P (dC, dI) vwCl [(h_t, .inr (6, [.ref h_t_cells, .int t_size, .int t_most, .int t_draw, .int y1])), (h_t_cells, .inl (cI, 48, .inl y2))] H := hP
        have hD : va_D A [(h_t, .inr (6, [.ref h_t_cells, .int t_size, .int t_most, .int t_draw, .int y1])), (h_t_cells, .inl (cI, 48, .inl y2))] := hD
        refine lv_aload_n hx hb dX9_append_52 rfl (lv_at hl 0 rfl) ?_
        refine lv_aload_n hx hb dX9_append_53 rfl (lv_at hl 0 rfl) ?_
        refine va_get (D := (dC, dI)) (ci := 6) (v := .int t_size) (C := RX9) (T := TX9) (N := 5) hx hb hts hinX9 hown hK hP 0 rfl rfl 1 (by decide) q0 (fun _ h9 => h9) rfl dX9_append_54 ?_
        refine lv_iconst (v := (5 : Int32)) hx hb dX9_append_57 (by decide) ?_
        refine lv_iload_n hx hb dX9_append_58 rfl (lv_at hl 1 rfl) ?_
        refine gz_v (W1 := (fun u : Int32 × (Nat → Int32) => [(h_t, .inr (6, [.ref h_t_cells, .int t_size, .int t_most, .int t_draw, .int u.1])), (h_t_cells, .inl (cI, 48, .inl u.2))])) (wn := (fun u : Int32 × (Nat → Int32) => [(h_t, .inr (6, [.ref h_t_cells, .int t_size, .int t_most, .int t_draw, .int u.1])), (h_t_cells, .inl (cI, 48, .inl u.2))])) (wr := []) (va_runV (As := [.int t_size, .int (5 : Int32), .int x1]) (rest := []) ⟨hx, hb, hml, hown, hts⟩ (c_X9_setCell l dC dI cI cJ cC cZ h_t h_t_cells H.size t_size t_most t_draw y1 y2 t_size (5 : Int32) x1 _ hf) (cwV 3 hts gX9_append_X9_setCell rfl rfl rfl (by decide +kernel) ⟨Nat.le_of_ble_eq_true rfl, Nat.le_of_ble_eq_true rfl⟩) ⟨gz_blind, va_recv hK hP (ci := 6) (q0 := 0) rfl rfl, gz_pre (gz_P_of hP (is := [0, 1]) (wc := [(h_t, .inr (6, [.ref h_t_cells, .int t_size, .int t_most, .int t_draw, .int y1])), (h_t_cells, .inl (cI, 48, .inl y2))]) rfl) hK (hD.sub [0, 1] (by decide) rfl) gz_N0⟩ rfl rfl hl.1 rfl (lv_room (Nat.le_of_ble_eq_true rfl)) dX9_append_59 ⟨Nat.le_refl _, Nat.le_refl _⟩) hP hD hS hA [0, 1] [] [0, 1] rfl rfl (by decide) (by decide) (fun _ => rfl) (by decide) (fun  u H locs hf hP hD hS => ?_)
        obtain ⟨y3, y4⟩ := u
        have hP : va_P (dC, dI) vwCl [(h_t, .inr (6, [.ref h_t_cells, .int t_size, .int t_most, .int t_draw, .int y3])), (h_t_cells, .inl (cI, 48, .inl y4))] H := hP
        have hD : va_D A [(h_t, .inr (6, [.ref h_t_cells, .int t_size, .int t_most, .int t_draw, .int y3])), (h_t_cells, .inl (cI, 48, .inl y4))] := hD
        refine lv_aload_n hx hb dX9_append_62 rfl (lv_at hl 0 rfl) ?_
        refine lv_dup hx hb dX9_append_63 rfl ?_
        refine va_get (D := (dC, dI)) (ci := 6) (v := .int t_size) (C := RX9) (T := TX9) (N := 5) hx hb hts hinX9 hown hK hP 0 rfl rfl 1 (by decide) q0 (fun _ h9 => h9) rfl dX9_append_64 ?_
        refine lv_iconst (v := (1 : Int32)) hx hb dX9_append_67 (by decide) ?_
        refine lv_iadd hx hb dX9_append_68 ?_
        refine va_put (D := (dC, dI)) (ci := 6) (v := .int (t_size + (1 : Int32))) (ty := .int) (C := RX9) (T := TX9) (N := 5) hx hb hts hinX9 tyX9 tyX9_ok nmX9 hown hK hP hD hS 0 rfl rfl 1 (by decide) q0 (fun _ h9 => h9) rfl (by decide +kernel) rfl rfl (Nat.le_of_ble_eq_true rfl) dX9_append_69 (fun H locs hP hD hS => ?_)
        have hP : va_P (dC, dI) vwCl [(h_t, .inr (6, [.ref h_t_cells, .int (t_size + (1 : Int32)), .int t_most, .int t_draw, .int y3])), (h_t_cells, .inl (cI, 48, .inl y4))] H := hP
        have hD : va_D A [(h_t, .inr (6, [.ref h_t_cells, .int (t_size + (1 : Int32)), .int t_most, .int t_draw, .int y3])), (h_t_cells, .inl (cI, 48, .inl y4))] := hD
        exact ret _ _ _ _ ((t_size + (1 : Int32)), y3, y4) hf hP hD hS dX9_append_72
      · have hf := hf.2 hc7
        refine lv_aload_n hx hb dX9_append_11 rfl (lv_at hl 0 rfl) ?_
        refine lv_aload_n hx hb dX9_append_12 rfl (lv_at hl 0 rfl) ?_
        refine va_get (D := (dC, dI)) (ci := 6) (v := .int t_size) (C := RX9) (T := TX9) (N := 5) hx hb hts hinX9 hown hK hP 0 rfl rfl 1 (by decide) q0 (fun _ h9 => h9) rfl dX9_append_13 ?_
        refine lv_iload hx hb dX9_append_16 (lv_at hl 4 rfl) ?_
        refine lv_iload hx hb dX9_append_18 (lv_at hl 3 rfl) ?_
        refine lv_bipush (v := (20 : Int32)) hx hb dX9_append_20 (by decide) ?_
        refine lv_irem hx hb dX9_append_22 (by decide) ?_
        refine lv_bipush (v := (9 : Int32)) hx hb dX9_append_23 (by decide) ?_
        refine lv_isub hx hb dX9_append_25 ?_
        refine gz_v (W1 := (fun u : Int32 × (Nat → Int32) => [(h_t, .inr (6, [.ref h_t_cells, .int t_size, .int t_most, .int t_draw, .int u.1])), (h_t_cells, .inl (cI, 48, .inl u.2))])) (wn := (fun u : Int32 × (Nat → Int32) => [(h_t, .inr (6, [.ref h_t_cells, .int t_size, .int t_most, .int t_draw, .int u.1])), (h_t_cells, .inl (cI, 48, .inl u.2))])) (wr := []) (va_runV (As := [.int t_size, .int x5, .int ((x4 - x4 / (20 : Int32) * (20 : Int32)) - (9 : Int32))]) (rest := []) ⟨hx, hb, hml, hown, hts⟩ (c_X9_setCell l dC dI cI cJ cC cZ h_t h_t_cells H.size t_size t_most t_draw t_changes t_cells t_size x5 ((x4 - x4 / (20 : Int32) * (20 : Int32)) - (9 : Int32)) _ hf) (cwV 3 hts gX9_append_X9_setCell rfl rfl rfl (by decide +kernel) ⟨Nat.le_of_ble_eq_true rfl, Nat.le_of_ble_eq_true rfl⟩) ⟨gz_blind, va_recv hK hP (ci := 6) (q0 := 0) rfl rfl, gz_pre (gz_P_of hP (is := [0, 1]) (wc := [(h_t, .inr (6, [.ref h_t_cells, .int t_size, .int t_most, .int t_draw, .int t_changes])), (h_t_cells, .inl (cI, 48, .inl t_cells))]) rfl) hK (hD.sub [0, 1] (by decide) rfl) gz_N0⟩ rfl rfl hl.1 rfl (lv_room (Nat.le_of_ble_eq_true rfl)) dX9_append_26 ⟨Nat.le_refl _, Nat.le_refl _⟩) hP hD hS hA [0, 1] [] [0, 1] rfl rfl (by decide) (by decide) (fun _ => rfl) (by decide) (fun  u H locs hf hP hD hS => ?_)
        obtain ⟨y5, y6⟩ := u
        have hP : va_P (dC, dI) vwCl [(h_t, .inr (6, [.ref h_t_cells, .int t_size, .int t_most, .int t_draw, .int y5])), (h_t_cells, .inl (cI, 48, .inl y6))] H := hP
        have hD : va_D A [(h_t, .inr (6, [.ref h_t_cells, .int t_size, .int t_most, .int t_draw, .int y5])), (h_t_cells, .inl (cI, 48, .inl y6))] := hD
        refine lv_iload hx hb dX9_append_29 (lv_at hl 3 rfl) ?_
        refine lv_bipush (v := (20 : Int32)) hx hb dX9_append_31 (by decide) ?_
        refine lv_idiv hx hb dX9_append_33 (by decide) ?_
        refine lv_istore (lv' := [(4, .int (x4 / (20 : Int32))), (0, .ref h_t), (1, .int x1), (3, .int x3), (5, .int x5)]) hx hb dX9_append_34 hl (by decide) rfl (fun ls hl => ?_)
        refine lv_iinc (v := (x5 + (-1 : Int32))) (lv' := [(5, .int (x5 + (-1 : Int32))), (4, .int (x4 / (20 : Int32))), (0, .ref h_t), (1, .int x1), (3, .int x3)]) hx hb dX9_append_36 hl (k := 4) rfl rfl (by decide) rfl (fun ls hl => ?_)
        refine lv_goto (tgt := 6) hx hb dX9_append_39 (by decide) ?_
        exact ih6 (x4 / (20 : Int32)) (x5 + (-1 : Int32)) y5 y6 _ _ _ hf hP hD hS (lv_sub hl [2, 3, 4, 1, 0] rfl)
  have hf := hw
  refine lv_iload_n hx hb dX9_append_0 rfl (lv_at hl 2 rfl) ?_
  refine lv_istore (lv' := [(4, .int x2), (0, .ref h_t), (1, .int x1), (2, .int x2), (3, .int x3)]) hx hb dX9_append_1 hl (by decide) rfl (fun ls hl => ?_)
  refine lv_iconst (v := (3 : Int32)) hx hb dX9_append_3 (by decide) ?_
  refine lv_istore (lv' := [(5, .int (3 : Int32)), (4, .int x2), (0, .ref h_t), (1, .int x1), (2, .int x2), (3, .int x3)]) hx hb dX9_append_4 hl (by decide) rfl (fun ls hl => ?_)
  obtain ⟨n, hf⟩ := hf
  exact L6 t_size n x2 (3 : Int32) t_changes t_cells _ _ _ hf hP hD hS (lv_sub hl [2, 3, 5, 1, 0] rfl)
abbrev rm_X9_remove : Room := { frames := 1, cells := 0, slots := 0, locals := 60 }
set_option maxHeartbeats 4000000 in
set_option maxRecDepth 100000 in
theorem c_X9_remove (l : Launch) (dC : Nat → ClassId) (dI : Nat → Nat → Nat) (cI cJ cC cZ : ClassId) (h_t h_t_cells : Nat) (sz : Nat) (t_size : Int32) (t_most : Int32) (t_draw : Int32) (t_changes : Int32) (t_cells : Nat → Int32) (x1 : Int32) (Q : Int32 → Int32 → (Nat → Int32) → Prop) (hw : p_X9_remove t_size t_changes t_cells x1 Q) : Met l yX9_remove wsX9_remove rm_X9_remove (va_Pc [.ref h_t, .int x1] (gz_B (dC, dI) (gz_T cI cJ cC cZ) [] sz [(h_t, .inr (6, [.ref h_t_cells, .int t_size, .int t_most, .int t_draw, .int t_changes])), (h_t_cells, .inl (cI, 48, .inl t_cells))])) (va_Qv (fun (u : Int32 × Int32 × (Nat → Int32)) => Q u.1 u.2.1 u.2.2) (fun u t => gz_E (dC, dI) (gz_T cI cJ cC cZ) (va_A [(h_t, .inr (6, [.ref h_t_cells, .int t_size, .int t_most, .int t_draw, .int t_changes])), (h_t_cells, .inl (cI, 48, .inl t_cells))] sz) [(h_t, .inr (6, [.ref h_t_cells, .int u.1, .int t_most, .int t_draw, .int u.2.1])), (h_t_cells, .inl (cI, 48, .inl u.2.2))] t) (va_A [(h_t, .inr (6, [.ref h_t_cells, .int t_size, .int t_most, .int t_draw, .int t_changes])), (h_t_cells, .inl (cI, 48, .inl t_cells))] sz)) 0 0 (va_A [(h_t, .inr (6, [.ref h_t_cells, .int t_size, .int t_most, .int t_draw, .int t_changes])), (h_t_cells, .inl (cI, 48, .inl t_cells))] sz) := by
  refine gz_mv (cc := cX9_remove) (maxL := 3) (plainFor_of_name (by decide +kernel)) rfl (Nat.le_of_ble_eq_true rfl) ?_
  intro p e s m below meth c A QQ ls hx hb hml hown0 hts hK hN hA hP hD hS hl ret
  have hown : s.vm.findClass RX9 = some m.cls := hown0
  have hl : lv_has ls 3 [(0, .ref h_t), (1, .int x1)] := hl
  have q0 := hts (.fieldLink RX9 11 "DarkShadows$Told" "cells" "[I") (List.mem_cons_of_mem _ (List.mem_append_left _ (List.mem_of_getElem? (i := 0) rfl)))
  have hinX9 : ∀ w ∈ wsX90, w ∈ wsX9_remove := fun w h => List.mem_cons_of_mem _ (List.mem_append_right _ h)
  have q2 := hts (.methodLink RX9 37 arraycopyName) (List.mem_cons_of_mem _ (List.mem_append_left _ (List.mem_of_getElem? (i := 1) rfl)))
  have q3 := hts (.native arraycopyName) (List.mem_cons_of_mem _ (List.mem_append_left _ (List.mem_of_getElem? (i := 2) rfl)))
  have q4 := hts (.static arraycopyName) (List.mem_cons_of_mem _ (List.mem_append_left _ (List.mem_of_getElem? (i := 3) rfl)))
  have q5 := hts (.initialized "java/lang/System") (List.mem_cons_of_mem _ (List.mem_append_left _ (List.mem_of_getElem? (i := 4) rfl)))
  have q6 := hts (.fieldLink RX9 30 "DarkShadows$Told" "size" "I") (List.mem_cons_of_mem _ (List.mem_append_left _ (List.mem_of_getElem? (i := 5) rfl)))
  have q7 := hts (.fieldLink RX9 27 "DarkShadows$Told" "changes" "I") (List.mem_cons_of_mem _ (List.mem_append_left _ (List.mem_of_getElem? (i := 6) rfl)))
  have hf := hw
  refine lv_iload_n hx hb dX9_remove_0 rfl (lv_at hl 1 rfl) ?_
  refine lv_iconst (v := (1 : Int32)) hx hb dX9_remove_1 (by decide) ?_
  refine lv_iadd hx hb dX9_remove_2 ?_
  refine lv_bipush (v := (6 : Int32)) hx hb dX9_remove_3 (by decide) ?_
  refine lv_imul hx hb dX9_remove_5 ?_
  refine lv_istore_n (lv' := [(2, .int ((x1 + (1 : Int32)) * (6 : Int32))), (0, .ref h_t), (1, .int x1)]) hx hb dX9_remove_6 rfl hl (by decide) rfl (fun ls hl => ?_)
  refine lv_aload_n hx hb dX9_remove_7 rfl (lv_at hl 1 rfl) ?_
  refine va_get (D := (dC, dI)) (ci := 6) (v := .ref h_t_cells) (C := RX9) (T := TX9) (N := 5) hx hb hts hinX9 hown hK hP 0 rfl rfl 0 (by decide) q0 (fun _ h9 => h9) rfl dX9_remove_8 ?_
  refine lv_iload_n hx hb dX9_remove_11 rfl (lv_at hl 0 rfl) ?_
  refine lv_aload_n hx hb dX9_remove_12 rfl (lv_at hl 1 rfl) ?_
  refine va_get (D := (dC, dI)) (ci := 6) (v := .ref h_t_cells) (C := RX9) (T := TX9) (N := 5) hx hb hts hinX9 hown hK hP 0 rfl rfl 0 (by decide) q0 (fun _ h9 => h9) rfl dX9_remove_13 ?_
  refine lv_iload_n hx hb dX9_remove_16 rfl (lv_at hl 2 rfl) ?_
  refine lv_bipush (v := (6 : Int32)) hx hb dX9_remove_17 (by decide) ?_
  refine lv_imul hx hb dX9_remove_19 ?_
  refine lv_bipush (v := (48 : Int32)) hx hb dX9_remove_20 (by decide) ?_
  refine lv_iload_n hx hb dX9_remove_22 rfl (lv_at hl 0 rfl) ?_
  refine lv_isub hx hb dX9_remove_23 ?_
  obtain ⟨hb1, hb2, hb3, hb4, hb5, hf⟩ := hf
  refine va_copyi (rest := []) hx hb (hml.trans hl.1.symm) hown q2 q3 q4 q5 hK hP hD hS 1 1 0 0 rfl rfl rfl rfl rfl hb1 hb2 hb3 hb4 hb5 (fun _ _ => rfl) (Nat.le_of_ble_eq_true rfl) (Nat.le_of_ble_eq_true (by decide +kernel)) dX9_remove_24 (fun H locs hP hD hS => ?_)
  have hP : va_P (dC, dI) vwCl [(h_t, .inr (6, [.ref h_t_cells, .int t_size, .int t_most, .int t_draw, .int t_changes])), (h_t_cells, .inl (cI, 48, .inl (va_cpy t_cells t_cells ((x1 + (1 : Int32)) * (6 : Int32)).toNatClampNeg (x1 * (6 : Int32)).toNatClampNeg ((48 : Int32) - ((x1 + (1 : Int32)) * (6 : Int32))).toNatClampNeg)))] H := hP
  have hD : va_D A [(h_t, .inr (6, [.ref h_t_cells, .int t_size, .int t_most, .int t_draw, .int t_changes])), (h_t_cells, .inl (cI, 48, .inl (va_cpy t_cells t_cells ((x1 + (1 : Int32)) * (6 : Int32)).toNatClampNeg (x1 * (6 : Int32)).toNatClampNeg ((48 : Int32) - ((x1 + (1 : Int32)) * (6 : Int32))).toNatClampNeg)))] := hD
  refine lv_aload_n hx hb dX9_remove_27 rfl (lv_at hl 1 rfl) ?_
  refine lv_dup hx hb dX9_remove_28 rfl ?_
  refine va_get (D := (dC, dI)) (ci := 6) (v := .int t_size) (C := RX9) (T := TX9) (N := 5) hx hb hts hinX9 hown hK hP 0 rfl rfl 1 (by decide) q6 (fun _ h9 => h9) rfl dX9_remove_29 ?_
  refine lv_iconst (v := (1 : Int32)) hx hb dX9_remove_32 (by decide) ?_
  refine lv_isub hx hb dX9_remove_33 ?_
  refine va_put (D := (dC, dI)) (ci := 6) (v := .int (t_size - (1 : Int32))) (ty := .int) (C := RX9) (T := TX9) (N := 5) hx hb hts hinX9 tyX9 tyX9_ok nmX9 hown hK hP hD hS 0 rfl rfl 1 (by decide) q6 (fun _ h9 => h9) rfl (by decide +kernel) rfl rfl (Nat.le_of_ble_eq_true rfl) dX9_remove_34 (fun H locs hP hD hS => ?_)
  have hP : va_P (dC, dI) vwCl [(h_t, .inr (6, [.ref h_t_cells, .int (t_size - (1 : Int32)), .int t_most, .int t_draw, .int t_changes])), (h_t_cells, .inl (cI, 48, .inl (va_cpy t_cells t_cells ((x1 + (1 : Int32)) * (6 : Int32)).toNatClampNeg (x1 * (6 : Int32)).toNatClampNeg ((48 : Int32) - ((x1 + (1 : Int32)) * (6 : Int32))).toNatClampNeg)))] H := hP
  have hD : va_D A [(h_t, .inr (6, [.ref h_t_cells, .int (t_size - (1 : Int32)), .int t_most, .int t_draw, .int t_changes])), (h_t_cells, .inl (cI, 48, .inl (va_cpy t_cells t_cells ((x1 + (1 : Int32)) * (6 : Int32)).toNatClampNeg (x1 * (6 : Int32)).toNatClampNeg ((48 : Int32) - ((x1 + (1 : Int32)) * (6 : Int32))).toNatClampNeg)))] := hD
  refine lv_aload_n hx hb dX9_remove_37 rfl (lv_at hl 1 rfl) ?_
  refine lv_dup hx hb dX9_remove_38 rfl ?_
  refine va_get (D := (dC, dI)) (ci := 6) (v := .int t_changes) (C := RX9) (T := TX9) (N := 5) hx hb hts hinX9 hown hK hP 0 rfl rfl 4 (by decide) q7 (fun _ h9 => h9) rfl dX9_remove_39 ?_
  refine lv_iconst (v := (1 : Int32)) hx hb dX9_remove_42 (by decide) ?_
  refine lv_iadd hx hb dX9_remove_43 ?_
  refine va_put (D := (dC, dI)) (ci := 6) (v := .int (t_changes + (1 : Int32))) (ty := .int) (C := RX9) (T := TX9) (N := 5) hx hb hts hinX9 tyX9 tyX9_ok nmX9 hown hK hP hD hS 0 rfl rfl 4 (by decide) q7 (fun _ h9 => h9) rfl (by decide +kernel) rfl rfl (Nat.le_of_ble_eq_true rfl) dX9_remove_44 (fun H locs hP hD hS => ?_)
  have hP : va_P (dC, dI) vwCl [(h_t, .inr (6, [.ref h_t_cells, .int (t_size - (1 : Int32)), .int t_most, .int t_draw, .int (t_changes + (1 : Int32))])), (h_t_cells, .inl (cI, 48, .inl (va_cpy t_cells t_cells ((x1 + (1 : Int32)) * (6 : Int32)).toNatClampNeg (x1 * (6 : Int32)).toNatClampNeg ((48 : Int32) - ((x1 + (1 : Int32)) * (6 : Int32))).toNatClampNeg)))] H := hP
  have hD : va_D A [(h_t, .inr (6, [.ref h_t_cells, .int (t_size - (1 : Int32)), .int t_most, .int t_draw, .int (t_changes + (1 : Int32))])), (h_t_cells, .inl (cI, 48, .inl (va_cpy t_cells t_cells ((x1 + (1 : Int32)) * (6 : Int32)).toNatClampNeg (x1 * (6 : Int32)).toNatClampNeg ((48 : Int32) - ((x1 + (1 : Int32)) * (6 : Int32))).toNatClampNeg)))] := hD
  exact ret _ _ _ _ ((t_size - (1 : Int32)), (t_changes + (1 : Int32)), (va_cpy t_cells t_cells ((x1 + (1 : Int32)) * (6 : Int32)).toNatClampNeg (x1 * (6 : Int32)).toNatClampNeg ((48 : Int32) - ((x1 + (1 : Int32)) * (6 : Int32))).toNatClampNeg)) hf hP hD hS dX9_remove_47
abbrev rm_X9_negate : Room := { frames := 1, cells := 0, slots := 0, locals := 23 }
set_option maxHeartbeats 4000000 in
set_option maxRecDepth 100000 in
theorem c_X9_negate (l : Launch) (dC : Nat → ClassId) (dI : Nat → Nat → Nat) (cI cJ cC cZ : ClassId) (h_t h_t_cells : Nat) (sz : Nat) (t_size : Int32) (t_most : Int32) (t_draw : Int32) (t_changes : Int32) (t_cells : Nat → Int32) (x1 : Int32) (Q : Int32 → (Nat → Int32) → Prop) (hw : p_X9_negate t_changes t_cells x1 Q) : Met l yX9_negate wsX9_negate rm_X9_negate (va_Pc [.ref h_t, .int x1] (gz_B (dC, dI) (gz_T cI cJ cC cZ) [] sz [(h_t, .inr (6, [.ref h_t_cells, .int t_size, .int t_most, .int t_draw, .int t_changes])), (h_t_cells, .inl (cI, 48, .inl t_cells))])) (va_Qv (fun (u : Int32 × (Nat → Int32)) => Q u.1 u.2) (fun u t => gz_E (dC, dI) (gz_T cI cJ cC cZ) (va_A [(h_t, .inr (6, [.ref h_t_cells, .int t_size, .int t_most, .int t_draw, .int t_changes])), (h_t_cells, .inl (cI, 48, .inl t_cells))] sz) [(h_t, .inr (6, [.ref h_t_cells, .int t_size, .int t_most, .int t_draw, .int u.1])), (h_t_cells, .inl (cI, 48, .inl u.2))] t) (va_A [(h_t, .inr (6, [.ref h_t_cells, .int t_size, .int t_most, .int t_draw, .int t_changes])), (h_t_cells, .inl (cI, 48, .inl t_cells))] sz)) 0 0 (va_A [(h_t, .inr (6, [.ref h_t_cells, .int t_size, .int t_most, .int t_draw, .int t_changes])), (h_t_cells, .inl (cI, 48, .inl t_cells))] sz) := by
  refine gz_mv (cc := cX9_negate) (maxL := 3) (plainFor_of_name (by decide +kernel)) rfl (Nat.le_of_ble_eq_true rfl) ?_
  intro p e s m below meth c A QQ ls hx hb hml hown0 hts hK hN hA hP hD hS hl ret
  have hown : s.vm.findClass RX9 = some m.cls := hown0
  have hl : lv_has ls 3 [(0, .ref h_t), (1, .int x1)] := hl
  have L2 : ∀ (n : Nat) (x2 : Int32) (t_changes : Int32) (t_cells : Nat → Int32) (H : Heap) (locs : List Loc) (ls : Array Slot), gi3 (p_X9_negate_2 x1 Q) n x2 t_changes t_cells → va_P (dC, dI) vwCl [(h_t, .inr (6, [.ref h_t_cells, .int t_size, .int t_most, .int t_draw, .int t_changes])), (h_t_cells, .inl (cI, 48, .inl t_cells))] H → va_D A [(h_t, .inr (6, [.ref h_t_cells, .int t_size, .int t_most, .int t_draw, .int t_changes])), (h_t_cells, .inl (cI, 48, .inl t_cells))] → va_S A s.heap H locs → lv_has ls 3 [(0, .ref h_t), (1, .int x1), (2, .int x2)] → W p l e rm_X9_negate s m [.ref h_t, .int x1].toArray below meth c H locs 0 0 QQ (F0 m 2 ls []) := by
    intro  n
    induction n with
    | zero => intro x2 t_changes t_cells H locs ls hf; exact False.elim hf
    | succ n ih2 =>
      generalize hK2 : gi3 (p_X9_negate_2 x1 Q) n = K2 at ih2
      intro x2 t_changes t_cells H locs ls hf hP hD hS hl
      have hf : p_X9_negate_2 x1 Q (gi3 (p_X9_negate_2 x1 Q) n) x2 t_changes t_cells := hf
      rw [hK2] at hf
      refine lv_iload_n hx hb dX9_negate_2 rfl (lv_at hl 2 rfl) ?_
      refine lv_iconst (v := (4 : Int32)) hx hb dX9_negate_3 (by decide) ?_
      refine lv_icmp_gt (tgt := 26) hx hb dX9_negate_4 (by decide) (fun hc4 => ?_) (fun hc4 => ?_)
      · have hf := hf.1 hc4
        exact ret _ _ _ _ (t_changes, t_cells) hf hP hD hS dX9_negate_26
      · have hf := hf.2 hc4
        refine lv_aload_n hx hb dX9_negate_7 rfl (lv_at hl 0 rfl) ?_
        refine lv_iload_n hx hb dX9_negate_8 rfl (lv_at hl 1 rfl) ?_
        refine lv_iload_n hx hb dX9_negate_9 rfl (lv_at hl 2 rfl) ?_
        refine lv_aload_n hx hb dX9_negate_10 rfl (lv_at hl 0 rfl) ?_
        refine lv_iload_n hx hb dX9_negate_11 rfl (lv_at hl 1 rfl) ?_
        refine lv_iload_n hx hb dX9_negate_12 rfl (lv_at hl 2 rfl) ?_
        refine gz_iR (va_runV (As := [.int x1, .int x2]) (rest := [.int x2, .int x1, .ref h_t]) ⟨hx, hb, hml, hown, hts⟩ (c_X9_cell l dC dI cI cJ cC cZ h_t h_t_cells H.size t_size t_most t_draw t_changes t_cells x1 x2 _ hf) (cwV 2 hts gX9_negate_X9_cell rfl rfl rfl (by decide +kernel) ⟨Nat.le_of_ble_eq_true rfl, Nat.le_of_ble_eq_true rfl⟩) ⟨gz_blind, va_recv hK hP (ci := 6) (q0 := 0) rfl rfl, gz_pre (gz_P_of hP (is := [0, 1]) (wc := [(h_t, .inr (6, [.ref h_t_cells, .int t_size, .int t_most, .int t_draw, .int t_changes])), (h_t_cells, .inl (cI, 48, .inl t_cells))]) rfl) hK (hD.sub [0, 1] (by decide) rfl) gz_N0⟩ rfl rfl hl.1 rfl (lv_room (Nat.le_of_ble_eq_true rfl)) dX9_negate_13 ⟨Nat.le_refl _, Nat.le_refl _⟩) hP hD hS hA [0, 1] rfl (fun r1 H locs hf hP hS => ?_)
        refine lv_ineg hx hb dX9_negate_16 ?_
        refine gz_v (W1 := (fun u : Int32 × (Nat → Int32) => [(h_t, .inr (6, [.ref h_t_cells, .int t_size, .int t_most, .int t_draw, .int u.1])), (h_t_cells, .inl (cI, 48, .inl u.2))])) (wn := (fun u : Int32 × (Nat → Int32) => [(h_t, .inr (6, [.ref h_t_cells, .int t_size, .int t_most, .int t_draw, .int u.1])), (h_t_cells, .inl (cI, 48, .inl u.2))])) (wr := []) (va_runV (As := [.int x1, .int x2, .int (-r1)]) (rest := []) ⟨hx, hb, hml, hown, hts⟩ (c_X9_setCell l dC dI cI cJ cC cZ h_t h_t_cells H.size t_size t_most t_draw t_changes t_cells x1 x2 (-r1) _ hf) (cwV 3 hts gX9_negate_X9_setCell rfl rfl rfl (by decide +kernel) ⟨Nat.le_of_ble_eq_true rfl, Nat.le_of_ble_eq_true rfl⟩) ⟨gz_blind, va_recv hK hP (ci := 6) (q0 := 0) rfl rfl, gz_pre (gz_P_of hP (is := [0, 1]) (wc := [(h_t, .inr (6, [.ref h_t_cells, .int t_size, .int t_most, .int t_draw, .int t_changes])), (h_t_cells, .inl (cI, 48, .inl t_cells))]) rfl) hK (hD.sub [0, 1] (by decide) rfl) gz_N0⟩ rfl rfl hl.1 rfl (lv_room (Nat.le_of_ble_eq_true rfl)) dX9_negate_17 ⟨Nat.le_refl _, Nat.le_refl _⟩) hP hD hS hA [0, 1] [] [0, 1] rfl rfl (by decide) (by decide) (fun _ => rfl) (by decide) (fun  u H locs hf hP hD hS => ?_)
        obtain ⟨y2, y3⟩ := u
        have hP : va_P (dC, dI) vwCl [(h_t, .inr (6, [.ref h_t_cells, .int t_size, .int t_most, .int t_draw, .int y2])), (h_t_cells, .inl (cI, 48, .inl y3))] H := hP
        have hD : va_D A [(h_t, .inr (6, [.ref h_t_cells, .int t_size, .int t_most, .int t_draw, .int y2])), (h_t_cells, .inl (cI, 48, .inl y3))] := hD
        refine lv_iinc (v := (x2 + (1 : Int32))) (lv' := [(2, .int (x2 + (1 : Int32))), (0, .ref h_t), (1, .int x1)]) hx hb dX9_negate_20 hl (k := 2) rfl rfl (by decide) rfl (fun ls hl => ?_)
        refine lv_goto (tgt := 2) hx hb dX9_negate_23 (by decide) ?_
        exact ih2 (x2 + (1 : Int32)) y2 y3 _ _ _ hf hP hD hS (lv_sub hl [1, 2, 0] rfl)
  have hf := hw
  refine lv_iconst (v := (0 : Int32)) hx hb dX9_negate_0 (by decide) ?_
  refine lv_istore_n (lv' := [(2, .int (0 : Int32)), (0, .ref h_t), (1, .int x1)]) hx hb dX9_negate_1 rfl hl (by decide) rfl (fun ls hl => ?_)
  obtain ⟨n, hf⟩ := hf
  exact L2  n (0 : Int32) t_changes t_cells _ _ _ hf hP hD hS (lv_sub hl [1, 2, 0] rfl)
abbrev rm_X9_driftOnce : Room := { frames := 1, cells := 0, slots := 0, locals := 23 }
set_option maxHeartbeats 4000000 in
set_option maxRecDepth 100000 in
theorem c_X9_driftOnce (l : Launch) (dC : Nat → ClassId) (dI : Nat → Nat → Nat) (cI cJ cC cZ : ClassId) (h_t h_t_cells : Nat) (sz : Nat) (t_size : Int32) (t_most : Int32) (t_draw : Int32) (t_changes : Int32) (t_cells : Nat → Int32) (Q : Int32 → Int32 → (Nat → Int32) → Prop) (hw : p_X9_driftOnce t_size t_draw t_changes t_cells Q) : Met l yX9_driftOnce wsX9_driftOnce rm_X9_driftOnce (va_Pc [.ref h_t] (gz_B (dC, dI) (gz_T cI cJ cC cZ) [] sz [(h_t, .inr (6, [.ref h_t_cells, .int t_size, .int t_most, .int t_draw, .int t_changes])), (h_t_cells, .inl (cI, 48, .inl t_cells))])) (va_Qv (fun (u : Int32 × Int32 × (Nat → Int32)) => Q u.1 u.2.1 u.2.2) (fun u t => gz_E (dC, dI) (gz_T cI cJ cC cZ) (va_A [(h_t, .inr (6, [.ref h_t_cells, .int t_size, .int t_most, .int t_draw, .int t_changes])), (h_t_cells, .inl (cI, 48, .inl t_cells))] sz) [(h_t, .inr (6, [.ref h_t_cells, .int t_size, .int t_most, .int u.1, .int u.2.1])), (h_t_cells, .inl (cI, 48, .inl u.2.2))] t) (va_A [(h_t, .inr (6, [.ref h_t_cells, .int t_size, .int t_most, .int t_draw, .int t_changes])), (h_t_cells, .inl (cI, 48, .inl t_cells))] sz)) 0 0 (va_A [(h_t, .inr (6, [.ref h_t_cells, .int t_size, .int t_most, .int t_draw, .int t_changes])), (h_t_cells, .inl (cI, 48, .inl t_cells))] sz) := by
  refine gz_mv (cc := cX9_driftOnce) (maxL := 2) (plainFor_of_name (by decide +kernel)) rfl (Nat.le_of_ble_eq_true rfl) ?_
  intro p e s m below meth c A QQ ls hx hb hml hown0 hts hK hN hA hP hD hS hl ret
  have hown : s.vm.findClass RX9 = some m.cls := hown0
  have hl : lv_has ls 2 [(0, .ref h_t)] := hl
  have q0 := hts (.fieldLink RX9 19 "DarkShadows$Told" "draw" "I") (List.mem_cons_of_mem _ (List.mem_append_left _ (List.mem_of_getElem? (i := 0) rfl)))
  have hinX9 : ∀ w ∈ wsX90, w ∈ wsX9_driftOnce := fun w h => List.mem_cons_of_mem _ (List.mem_append_right _ h)
  have q2 := hts (.constant RX9 47 (1103515245)) (List.mem_cons_of_mem _ (List.mem_append_left _ (List.mem_of_getElem? (i := 1) rfl)))
  have q3 := hts (.constant RX9 48 (2147483647)) (List.mem_cons_of_mem _ (List.mem_append_left _ (List.mem_of_getElem? (i := 2) rfl)))
  have q4 := hts (.constant RX9 49 (65536)) (List.mem_cons_of_mem _ (List.mem_append_left _ (List.mem_of_getElem? (i := 3) rfl)))
  have q5 := hts (.fieldLink RX9 30 "DarkShadows$Told" "size" "I") (List.mem_cons_of_mem _ (List.mem_append_left _ (List.mem_of_getElem? (i := 4) rfl)))
  have hf := hw
  refine lv_aload_n hx hb dX9_driftOnce_0 rfl (lv_at hl 0 rfl) ?_
  refine lv_aload_n hx hb dX9_driftOnce_1 rfl (lv_at hl 0 rfl) ?_
  refine va_get (D := (dC, dI)) (ci := 6) (v := .int t_draw) (C := RX9) (T := TX9) (N := 5) hx hb hts hinX9 hown hK hP 0 rfl rfl 3 (by decide) q0 (fun _ h9 => h9) rfl dX9_driftOnce_2 ?_
  refine lv_ldc (v := (1103515245 : Int32)) hx hb hown q2 dX9_driftOnce_5 ?_
  refine lv_imul hx hb dX9_driftOnce_7 ?_
  refine lv_sipush (v := (12345 : Int32)) hx hb dX9_driftOnce_8 (by decide) ?_
  refine lv_iadd hx hb dX9_driftOnce_11 ?_
  refine lv_ldc (v := (2147483647 : Int32)) hx hb hown q3 dX9_driftOnce_12 ?_
  refine lv_iand hx hb dX9_driftOnce_14 ?_
  refine va_put (D := (dC, dI)) (ci := 6) (v := .int (((t_draw * (1103515245 : Int32)) + (12345 : Int32)) &&& (2147483647 : Int32))) (ty := .int) (C := RX9) (T := TX9) (N := 5) hx hb hts hinX9 tyX9 tyX9_ok nmX9 hown hK hP hD hS 0 rfl rfl 3 (by decide) q0 (fun _ h9 => h9) rfl (by decide +kernel) rfl rfl (Nat.le_of_ble_eq_true rfl) dX9_driftOnce_15 (fun H locs hP hD hS => ?_)
  have hP : va_P (dC, dI) vwCl [(h_t, .inr (6, [.ref h_t_cells, .int t_size, .int t_most, .int (((t_draw * (1103515245 : Int32)) + (12345 : Int32)) &&& (2147483647 : Int32)), .int t_changes])), (h_t_cells, .inl (cI, 48, .inl t_cells))] H := hP
  have hD : va_D A [(h_t, .inr (6, [.ref h_t_cells, .int t_size, .int t_most, .int (((t_draw * (1103515245 : Int32)) + (12345 : Int32)) &&& (2147483647 : Int32)), .int t_changes])), (h_t_cells, .inl (cI, 48, .inl t_cells))] := hD
  refine lv_aload_n hx hb dX9_driftOnce_18 rfl (lv_at hl 0 rfl) ?_
  refine va_get (D := (dC, dI)) (ci := 6) (v := .int (((t_draw * (1103515245 : Int32)) + (12345 : Int32)) &&& (2147483647 : Int32))) (C := RX9) (T := TX9) (N := 5) hx hb hts hinX9 hown hK hP 0 rfl rfl 3 (by decide) q0 (fun _ h9 => h9) rfl dX9_driftOnce_19 ?_
  refine lv_ldc (v := (65536 : Int32)) hx hb hown q4 dX9_driftOnce_22 ?_
  refine lv_idiv hx hb dX9_driftOnce_24 (by decide) ?_
  refine lv_topi (fun z1 ez1 => ?_)
  have hf := hf z1 ez1
  refine lv_istore_n (lv' := [(1, .int z1), (0, .ref h_t)]) hx hb dX9_driftOnce_25 rfl hl (by decide) rfl (fun ls hl => ?_)
  refine lv_aload_n hx hb dX9_driftOnce_26 rfl (lv_at hl 1 rfl) ?_
  refine va_get (D := (dC, dI)) (ci := 6) (v := .int t_size) (C := RX9) (T := TX9) (N := 5) hx hb hts hinX9 hown hK hP 0 rfl rfl 1 (by decide) q5 (fun _ h9 => h9) rfl dX9_driftOnce_27 ?_
  refine lv_if_le (tgt := 59) hx hb dX9_driftOnce_30 (by decide) (fun hc5 => ?_) (fun hc5 => ?_)
  · have hf := hf.1 hc5
    exact ret _ _ _ _ ((((t_draw * (1103515245 : Int32)) + (12345 : Int32)) &&& (2147483647 : Int32)), t_changes, t_cells) hf hP hD hS dX9_driftOnce_59
  · have hf := hf.2 hc5
    refine lv_aload_n hx hb dX9_driftOnce_33 rfl (lv_at hl 1 rfl) ?_
    refine lv_iload_n hx hb dX9_driftOnce_34 rfl (lv_at hl 0 rfl) ?_
    refine lv_aload_n hx hb dX9_driftOnce_35 rfl (lv_at hl 1 rfl) ?_
    refine va_get (D := (dC, dI)) (ci := 6) (v := .int t_size) (C := RX9) (T := TX9) (N := 5) hx hb hts hinX9 hown hK hP 0 rfl rfl 1 (by decide) q5 (fun _ h9 => h9) rfl dX9_driftOnce_36 ?_
    obtain ⟨hb4, hf⟩ := hf
    refine lv_irem hx hb dX9_driftOnce_39 hb4 ?_
    refine lv_iload_n hx hb dX9_driftOnce_40 rfl (lv_at hl 0 rfl) ?_
    refine lv_bipush (v := (8 : Int32)) hx hb dX9_driftOnce_41 (by decide) ?_
    refine lv_idiv hx hb dX9_driftOnce_43 (by decide) ?_
    refine lv_iconst (v := (5 : Int32)) hx hb dX9_driftOnce_44 (by decide) ?_
    refine lv_irem hx hb dX9_driftOnce_45 (by decide) ?_
    refine lv_iload_n hx hb dX9_driftOnce_46 rfl (lv_at hl 0 rfl) ?_
    refine lv_bipush (v := (64 : Int32)) hx hb dX9_driftOnce_47 (by decide) ?_
    refine lv_idiv hx hb dX9_driftOnce_49 (by decide) ?_
    refine lv_bipush (v := (19 : Int32)) hx hb dX9_driftOnce_50 (by decide) ?_
    refine lv_irem hx hb dX9_driftOnce_52 (by decide) ?_
    refine lv_bipush (v := (9 : Int32)) hx hb dX9_driftOnce_53 (by decide) ?_
    refine lv_isub hx hb dX9_driftOnce_55 ?_
    refine gz_v (W1 := (fun u : Int32 × (Nat → Int32) => [(h_t, .inr (6, [.ref h_t_cells, .int t_size, .int t_most, .int (((t_draw * (1103515245 : Int32)) + (12345 : Int32)) &&& (2147483647 : Int32)), .int u.1])), (h_t_cells, .inl (cI, 48, .inl u.2))])) (wn := (fun u : Int32 × (Nat → Int32) => [(h_t, .inr (6, [.ref h_t_cells, .int t_size, .int t_most, .int (((t_draw * (1103515245 : Int32)) + (12345 : Int32)) &&& (2147483647 : Int32)), .int u.1])), (h_t_cells, .inl (cI, 48, .inl u.2))])) (wr := []) (va_runV (As := [.int (z1 - z1 / t_size * t_size), .int ((z1 / (8 : Int32)) - (z1 / (8 : Int32)) / (5 : Int32) * (5 : Int32)), .int (((z1 / (64 : Int32)) - (z1 / (64 : Int32)) / (19 : Int32) * (19 : Int32)) - (9 : Int32))]) (rest := []) ⟨hx, hb, hml, hown, hts⟩ (c_X9_setCell l dC dI cI cJ cC cZ h_t h_t_cells H.size t_size t_most (((t_draw * (1103515245 : Int32)) + (12345 : Int32)) &&& (2147483647 : Int32)) t_changes t_cells (z1 - z1 / t_size * t_size) ((z1 / (8 : Int32)) - (z1 / (8 : Int32)) / (5 : Int32) * (5 : Int32)) (((z1 / (64 : Int32)) - (z1 / (64 : Int32)) / (19 : Int32) * (19 : Int32)) - (9 : Int32)) _ hf) (cwV 3 hts gX9_driftOnce_X9_setCell rfl rfl rfl (by decide +kernel) ⟨Nat.le_of_ble_eq_true rfl, Nat.le_of_ble_eq_true rfl⟩) ⟨gz_blind, va_recv hK hP (ci := 6) (q0 := 0) rfl rfl, gz_pre (gz_P_of hP (is := [0, 1]) (wc := [(h_t, .inr (6, [.ref h_t_cells, .int t_size, .int t_most, .int (((t_draw * (1103515245 : Int32)) + (12345 : Int32)) &&& (2147483647 : Int32)), .int t_changes])), (h_t_cells, .inl (cI, 48, .inl t_cells))]) rfl) hK (hD.sub [0, 1] (by decide) rfl) gz_N0⟩ rfl rfl hl.1 rfl (lv_room (Nat.le_of_ble_eq_true rfl)) dX9_driftOnce_56 ⟨Nat.le_refl _, Nat.le_refl _⟩) hP hD hS hA [0, 1] [] [0, 1] rfl rfl (by decide) (by decide) (fun _ => rfl) (by decide) (fun  u H locs hf hP hD hS => ?_)
    obtain ⟨y2, y3⟩ := u
    have hP : va_P (dC, dI) vwCl [(h_t, .inr (6, [.ref h_t_cells, .int t_size, .int t_most, .int (((t_draw * (1103515245 : Int32)) + (12345 : Int32)) &&& (2147483647 : Int32)), .int y2])), (h_t_cells, .inl (cI, 48, .inl y3))] H := hP
    have hD : va_D A [(h_t, .inr (6, [.ref h_t_cells, .int t_size, .int t_most, .int (((t_draw * (1103515245 : Int32)) + (12345 : Int32)) &&& (2147483647 : Int32)), .int y2])), (h_t_cells, .inl (cI, 48, .inl y3))] := hD
    exact ret _ _ _ _ ((((t_draw * (1103515245 : Int32)) + (12345 : Int32)) &&& (2147483647 : Int32)), y2, y3) hf hP hD hS dX9_driftOnce_59
abbrev rm_X9_holdingAt : Room := { frames := 2, cells := 0, slots := 0, locals := 44 }
set_option maxHeartbeats 4000000 in
set_option maxRecDepth 100000 in
theorem c_X9_holdingAt (l : Launch) (dC : Nat → ClassId) (dI : Nat → Nat → Nat) (cI cJ cC cZ : ClassId) (h_t h_t_cells : Nat) (sz : Nat) (t_size : Int32) (t_most : Int32) (t_draw : Int32) (t_changes : Int32) (t_cells : Nat → Int32) (x1 : Int32) (Q : Int32 → Prop) (hw : p_X9_holdingAt t_size t_cells x1 Q) : Met l yX9_holdingAt wsX9_holdingAt rm_X9_holdingAt (va_Pc [.ref h_t, .int x1] (gz_B (dC, dI) (gz_T cI cJ cC cZ) [] sz [(h_t, .inr (6, [.ref h_t_cells, .int t_size, .int t_most, .int t_draw, .int t_changes])), (h_t_cells, .inl (cI, 48, .inl t_cells))])) (va_Qi (fun (r : Int32) (u : Unit) => Q r) (fun u t => gz_E (dC, dI) (gz_T cI cJ cC cZ) (va_A [(h_t, .inr (6, [.ref h_t_cells, .int t_size, .int t_most, .int t_draw, .int t_changes])), (h_t_cells, .inl (cI, 48, .inl t_cells))] sz) [(h_t, .inr (6, [.ref h_t_cells, .int t_size, .int t_most, .int t_draw, .int t_changes])), (h_t_cells, .inl (cI, 48, .inl t_cells))] t) (va_A [(h_t, .inr (6, [.ref h_t_cells, .int t_size, .int t_most, .int t_draw, .int t_changes])), (h_t_cells, .inl (cI, 48, .inl t_cells))] sz)) 0 0 (va_A [(h_t, .inr (6, [.ref h_t_cells, .int t_size, .int t_most, .int t_draw, .int t_changes])), (h_t_cells, .inl (cI, 48, .inl t_cells))] sz) := by
  refine gz_mi (cc := cX9_holdingAt) (maxL := 4) (plainFor_of_name (by decide +kernel)) rfl (Nat.le_of_ble_eq_true rfl) ?_
  intro p e s m below meth c A QQ ls hx hb hml hown0 hts hK hN hA hP hD hS hl ret
  have hown : s.vm.findClass RX9 = some m.cls := hown0
  have hl : lv_has ls 4 [(0, .ref h_t), (1, .int x1)] := hl
  have q0 := hts (.fieldLink RX9 30 "DarkShadows$Told" "size" "I") (List.mem_cons_of_mem _ (List.mem_append_left _ (List.mem_of_getElem? (i := 0) rfl)))
  have hinX9 : ∀ w ∈ wsX90, w ∈ wsX9_holdingAt := fun w h => List.mem_cons_of_mem _ (List.mem_append_right _ h)
  have L4 : ∀ (n : Nat) (x2 : Int32) (x3 : Int32) (H : Heap) (locs : List Loc) (ls : Array Slot), gi2 (p_X9_holdingAt_4 t_size t_cells x1 Q) n x2 x3 → va_P (dC, dI) vwCl [(h_t, .inr (6, [.ref h_t_cells, .int t_size, .int t_most, .int t_draw, .int t_changes])), (h_t_cells, .inl (cI, 48, .inl t_cells))] H → va_D A [(h_t, .inr (6, [.ref h_t_cells, .int t_size, .int t_most, .int t_draw, .int t_changes])), (h_t_cells, .inl (cI, 48, .inl t_cells))] → va_S A s.heap H locs → lv_has ls 4 [(0, .ref h_t), (1, .int x1), (2, .int x2), (3, .int x3)] → W p l e rm_X9_holdingAt s m [.ref h_t, .int x1].toArray below meth c H locs 0 0 QQ (F0 m 4 ls []) := by
    intro  n
    induction n with
    | zero => intro x2 x3 H locs ls hf; exact False.elim hf
    | succ n ih4 =>
      generalize hK4 : gi2 (p_X9_holdingAt_4 t_size t_cells x1 Q) n = K4 at ih4
      have L38 : ∀ (x3 : Int32) (s0 : Int32) (s1 : Int32) (H : Heap) (locs : List Loc) (ls : Array Slot), p_X9_holdingAt_38 x3 s0 s1 K4 → va_P (dC, dI) vwCl [(h_t, .inr (6, [.ref h_t_cells, .int t_size, .int t_most, .int t_draw, .int t_changes])), (h_t_cells, .inl (cI, 48, .inl t_cells))] H → va_D A [(h_t, .inr (6, [.ref h_t_cells, .int t_size, .int t_most, .int t_draw, .int t_changes])), (h_t_cells, .inl (cI, 48, .inl t_cells))] → va_S A s.heap H locs → lv_has ls 4 [(0, .ref h_t), (1, .int x1), (3, .int x3)] → W p l e rm_X9_holdingAt s m [.ref h_t, .int x1].toArray below meth c H locs 0 0 QQ (F0 m 38 ls [.int s1, .int s0]) := by
        intro x3 s0 s1 H locs ls hf hP hD hS hl
        refine lv_ior hx hb dX9_holdingAt_38 ?_
        refine lv_istore_n (lv' := [(2, .int (s0 ||| s1)), (0, .ref h_t), (1, .int x1), (3, .int x3)]) hx hb dX9_holdingAt_39 rfl hl (by decide) rfl (fun ls hl => ?_)
        refine lv_iinc (v := (x3 + (1 : Int32))) (lv' := [(3, .int (x3 + (1 : Int32))), (2, .int (s0 ||| s1)), (0, .ref h_t), (1, .int x1)]) hx hb dX9_holdingAt_40 hl (k := 3) rfl rfl (by decide) rfl (fun ls hl => ?_)
        refine lv_goto (tgt := 4) hx hb dX9_holdingAt_43 (by decide) ?_
        exact ih4 (s0 ||| s1) (x3 + (1 : Int32)) _ _ _ hf hP hD hS (lv_sub hl [2, 3, 1, 0] rfl)
      intro x2 x3 H locs ls hf hP hD hS hl
      have hf : p_X9_holdingAt_4 t_size t_cells x1 Q (gi2 (p_X9_holdingAt_4 t_size t_cells x1 Q) n) x2 x3 := hf
      rw [hK4] at hf
      refine lv_iload_n hx hb dX9_holdingAt_4 rfl (lv_at hl 3 rfl) ?_
      refine lv_aload_n hx hb dX9_holdingAt_5 rfl (lv_at hl 0 rfl) ?_
      refine va_get (D := (dC, dI)) (ci := 6) (v := .int t_size) (C := RX9) (T := TX9) (N := 5) hx hb hts hinX9 hown hK hP 0 rfl rfl 1 (by decide) q0 (fun _ h9 => h9) rfl dX9_holdingAt_6 ?_
      refine lv_icmp_ge (tgt := 46) hx hb dX9_holdingAt_9 (by decide) (fun hc5 => ?_) (fun hc5 => ?_)
      · have hf := hf.1 hc5
        refine lv_iload_n hx hb dX9_holdingAt_46 rfl (lv_at hl 2 rfl) ?_
        exact ret _ _ _ _ x2 () hf hP hD hS dX9_holdingAt_47
      · have hf := hf.2 hc5
        refine lv_iload_n hx hb dX9_holdingAt_12 rfl (lv_at hl 2 rfl) ?_
        refine lv_aload_n hx hb dX9_holdingAt_13 rfl (lv_at hl 0 rfl) ?_
        refine lv_iload_n hx hb dX9_holdingAt_14 rfl (lv_at hl 3 rfl) ?_
        refine lv_iconst (v := (5 : Int32)) hx hb dX9_holdingAt_15 (by decide) ?_
        refine gz_iR (va_runV (As := [.int x3, .int (5 : Int32)]) (rest := [.int x2]) ⟨hx, hb, hml, hown, hts⟩ (c_X9_cell l dC dI cI cJ cC cZ h_t h_t_cells H.size t_size t_most t_draw t_changes t_cells x3 (5 : Int32) _ hf) (cwV 2 hts gX9_holdingAt_X9_cell rfl rfl rfl (by decide +kernel) ⟨Nat.le_of_ble_eq_true rfl, Nat.le_of_ble_eq_true rfl⟩) ⟨gz_blind, va_recv hK hP (ci := 6) (q0 := 0) rfl rfl, gz_pre (gz_P_of hP (is := [0, 1]) (wc := [(h_t, .inr (6, [.ref h_t_cells, .int t_size, .int t_most, .int t_draw, .int t_changes])), (h_t_cells, .inl (cI, 48, .inl t_cells))]) rfl) hK (hD.sub [0, 1] (by decide) rfl) gz_N0⟩ rfl rfl hl.1 rfl (lv_room (Nat.le_of_ble_eq_true rfl)) dX9_holdingAt_16 ⟨Nat.le_refl _, Nat.le_refl _⟩) hP hD hS hA [0, 1] rfl (fun r1 H locs hf hP hS => ?_)
        refine lv_aload_n hx hb dX9_holdingAt_19 rfl (lv_at hl 0 rfl) ?_
        refine lv_iload_n hx hb dX9_holdingAt_20 rfl (lv_at hl 3 rfl) ?_
        refine lv_iload_n hx hb dX9_holdingAt_21 rfl (lv_at hl 1 rfl) ?_
        refine gz_iR (va_runV (As := [.int x3, .int x1]) (rest := [.int r1, .int x2]) ⟨hx, hb, hml, hown, hts⟩ (c_X9_sumAt l dC dI cI cJ cC cZ h_t h_t_cells H.size t_size t_most t_draw t_changes t_cells x3 x1 _ hf) (cwV 2 hts gX9_holdingAt_X9_sumAt rfl rfl rfl (by decide +kernel) ⟨Nat.le_of_ble_eq_true rfl, Nat.le_of_ble_eq_true rfl⟩) ⟨gz_blind, va_recv hK hP (ci := 6) (q0 := 0) rfl rfl, gz_pre (gz_P_of hP (is := [0, 1]) (wc := [(h_t, .inr (6, [.ref h_t_cells, .int t_size, .int t_most, .int t_draw, .int t_changes])), (h_t_cells, .inl (cI, 48, .inl t_cells))]) rfl) hK (hD.sub [0, 1] (by decide) rfl) gz_N0⟩ rfl rfl hl.1 rfl (lv_room (Nat.le_of_ble_eq_true rfl)) dX9_holdingAt_22 ⟨Nat.le_refl _, Nat.le_refl _⟩) hP hD hS hA [0, 1] rfl (fun r2 H locs hf hP hS => ?_)
        refine gz_i0 (va_runS (As := [.int r1, .int r2]) (rest := [.int x2]) ⟨hx, hb, hml, hown, hts⟩ (c_X1_holds l dC dI cI cJ cC cZ H.size r1 r2 _ hf) (va_cwS 2 hts gX9_holdingAt_X1_holds rfl rfl rfl (by decide +kernel) ⟨Nat.le_of_ble_eq_true rfl, Nat.le_of_ble_eq_true rfl⟩) ⟨gz_blind, gz_pre (gz_P_of hP (is := []) (wc := []) rfl) hK (hD.sub [] (by decide) rfl) gz_N0⟩ rfl rfl hl.1 rfl (lv_room (Nat.le_of_ble_eq_true rfl)) dX9_holdingAt_25 ⟨Nat.le_refl _, Nat.le_refl _⟩) hP hD hS hA (fun r3 H locs hf hP hS => ?_)
        refine lv_if_eq (tgt := 37) hx hb dX9_holdingAt_28 (by decide) (fun hc4 => ?_) (fun hc4 => ?_)
        · have hf := hf.1 hc4
          refine lv_iconst (v := (0 : Int32)) hx hb dX9_holdingAt_37 (by decide) ?_
          exact L38 x3 x2 (0 : Int32) _ _ _ hf hP hD hS (lv_sub hl [0, 1, 3] rfl)
        · have hf := hf.2 hc4
          refine lv_iconst (v := (1 : Int32)) hx hb dX9_holdingAt_31 (by decide) ?_
          refine lv_iload_n hx hb dX9_holdingAt_32 rfl (lv_at hl 3 rfl) ?_
          refine lv_ishl hx hb dX9_holdingAt_33 ?_
          refine lv_goto (tgt := 38) hx hb dX9_holdingAt_34 (by decide) ?_
          exact L38 x3 x2 ((1 : Int32) <<< (x3 &&& 31)) _ _ _ hf hP hD hS (lv_sub hl [0, 1, 3] rfl)
  have hf := hw
  refine lv_iconst (v := (0 : Int32)) hx hb dX9_holdingAt_0 (by decide) ?_
  refine lv_istore_n (lv' := [(2, .int (0 : Int32)), (0, .ref h_t), (1, .int x1)]) hx hb dX9_holdingAt_1 rfl hl (by decide) rfl (fun ls hl => ?_)
  refine lv_iconst (v := (0 : Int32)) hx hb dX9_holdingAt_2 (by decide) ?_
  refine lv_istore_n (lv' := [(3, .int (0 : Int32)), (2, .int (0 : Int32)), (0, .ref h_t), (1, .int x1)]) hx hb dX9_holdingAt_3 rfl hl (by decide) rfl (fun ls hl => ?_)
  obtain ⟨n, hf⟩ := hf
  exact L4  n (0 : Int32) (0 : Int32) _ _ _ hf hP hD hS (lv_sub hl [2, 3, 1, 0] rfl)
abbrev rm_X10_isNoVariable : Room := { frames := 1, cells := 0, slots := 0, locals := 22 }
set_option maxHeartbeats 4000000 in
set_option maxRecDepth 100000 in
theorem c_X10_isNoVariable (l : Launch) (dC : Nat → ClassId) (dI : Nat → Nat → Nat) (cI cJ cC cZ : ClassId) (sz : Nat) (x0 : Int32) (Q : Int32 → Prop) (hw : p_X10_isNoVariable x0 Q) : Met l yX10_isNoVariable wsX10_isNoVariable rm_X10_isNoVariable (va_Pc [.int x0] (gz_B (dC, dI) (gz_T cI cJ cC cZ) [] sz [])) (va_Qi (fun (r : Int32) (u : Unit) => Q r) (fun u t => gz_E (dC, dI) (gz_T cI cJ cC cZ) (va_A [] sz) [] t) (va_A [] sz)) 0 0 (va_A [] sz) := by
  refine gz_mz (cc := cX10_isNoVariable) (maxL := 1) (plainFor_of_name (by decide +kernel)) rfl (Nat.le_of_ble_eq_true rfl) ?_
  intro p e s m below meth c A QQ ls hx hb hml hown0 hts hK hN hA hP hD hS hl ret
  have hown : s.vm.findClass RX10 = some m.cls := hown0
  have hl : lv_has ls 1 [(0, .int x0)] := hl
  have hf := hw
  refine lv_iload_n hx hb dX10_isNoVariable_0 rfl (lv_at hl 0 rfl) ?_
  refine lv_iconst (v := (0 : Int32)) hx hb dX10_isNoVariable_1 (by decide) ?_
  refine lv_iconst (v := (3 : Int32)) hx hb dX10_isNoVariable_2 (by decide) ?_
  refine gz_i0 (va_runS (As := [.int x0, .int (0 : Int32), .int (3 : Int32)]) (rest := []) ⟨hx, hb, hml, hown, hts⟩ (c_X10_outside l dC dI cI cJ cC cZ s.heap.size x0 (0 : Int32) (3 : Int32) _ hf) (va_cwS 3 hts gX10_isNoVariable_X10_outside rfl rfl rfl (by decide +kernel) ⟨Nat.le_of_ble_eq_true rfl, Nat.le_of_ble_eq_true rfl⟩) ⟨gz_blind, gz_pre (gz_P_of hP (is := []) (wc := []) rfl) hK (hD.sub [] (by decide) rfl) gz_N0⟩ rfl rfl hl.1 rfl (lv_room (Nat.le_of_ble_eq_true rfl)) dX10_isNoVariable_3 ⟨Nat.le_refl _, Nat.le_refl _⟩) hP hD hS hA (fun r1 H locs hf hP hS => ?_)
  exact ret _ _ _ _ r1 () hf.1 hf.2 hP hD hS dX10_isNoVariable_6
abbrev rm_X6_shadowOf_k1 : Room := { frames := 5, cells := 0, slots := 0, locals := 125 }
set_option maxHeartbeats 4000000 in
set_option maxRecDepth 100000 in
theorem c_X6_shadowOf_k1 (l : Launch) (dC : Nat → ClassId) (dI : Nat → Nat → Nat) (cI cJ cC cZ : ClassId) (h_t h_t_source h_t_real h_t_dark h_t_dark_cells h_t_source_cells h_a1 h_a1_cells : Nat) (sz : Nat) (n_t_dark_cells : Nat) (n_t_source_cells : Nat) (t_dark_size : Int32) (t_dark_cells : Nat → Int32) (t_source_size : Int32) (t_source_cells : Nat → Int32) (a1_size : Int32) (a1_most : Int32) (a1_draw : Int32) (a1_changes : Int32) (a1_cells : Nat → Int32) (x2 : Int32) (Q : Int32 → (Nat → Int32) → Int32 → (Nat → Int32) → Prop) (hw : p_X6_shadowOf_k1 n_t_dark_cells n_t_source_cells t_dark_size t_dark_cells t_source_size t_source_cells a1_size a1_most a1_cells x2 Q) : Met l yX6_shadowOf wsX6_shadowOf rm_X6_shadowOf_k1 (va_Pc [.ref h_t, .ref h_a1, .int x2, .int (1 : Int32)] (gz_B (dC, dI) (gz_T cI cJ cC cZ) [] sz [(h_t, .inr (3, [.ref h_t_source, .ref h_t_real, .ref h_t_dark])), (h_t_dark, .inr (1, [.ref h_t_dark_cells, .int t_dark_size])), (h_t_dark_cells, .inl (cI, n_t_dark_cells, .inl t_dark_cells)), (h_t_source, .inr (1, [.ref h_t_source_cells, .int t_source_size])), (h_t_source_cells, .inl (cI, n_t_source_cells, .inl t_source_cells)), (h_a1, .inr (6, [.ref h_a1_cells, .int a1_size, .int a1_most, .int a1_draw, .int a1_changes])), (h_a1_cells, .inl (cI, 48, .inl a1_cells))])) (va_Qr (fun (u : Int32 × (Nat → Int32) × Int32 × (Nat → Int32)) => Q u.1 u.2.1 u.2.2.1 u.2.2.2) (fun u b t => b = h_t_dark ∧ gz_E (dC, dI) (gz_T cI cJ cC cZ) (va_A [(h_t, .inr (3, [.ref h_t_source, .ref h_t_real, .ref h_t_dark])), (h_t_dark, .inr (1, [.ref h_t_dark_cells, .int t_dark_size])), (h_t_dark_cells, .inl (cI, n_t_dark_cells, .inl t_dark_cells)), (h_t_source, .inr (1, [.ref h_t_source_cells, .int t_source_size])), (h_t_source_cells, .inl (cI, n_t_source_cells, .inl t_source_cells)), (h_a1, .inr (6, [.ref h_a1_cells, .int a1_size, .int a1_most, .int a1_draw, .int a1_changes])), (h_a1_cells, .inl (cI, 48, .inl a1_cells))] sz) [(h_t, .inr (3, [.ref h_t_source, .ref h_t_real, .ref h_t_dark])), (h_t_dark, .inr (1, [.ref h_t_dark_cells, .int u.1])), (h_t_dark_cells, .inl (cI, n_t_dark_cells, .inl u.2.1)), (h_t_source, .inr (1, [.ref h_t_source_cells, .int u.2.2.1])), (h_t_source_cells, .inl (cI, n_t_source_cells, .inl u.2.2.2)), (h_a1, .inr (6, [.ref h_a1_cells, .int a1_size, .int a1_most, .int a1_draw, .int a1_changes])), (h_a1_cells, .inl (cI, 48, .inl a1_cells))] t) (va_A [(h_t, .inr (3, [.ref h_t_source, .ref h_t_real, .ref h_t_dark])), (h_t_dark, .inr (1, [.ref h_t_dark_cells, .int t_dark_size])), (h_t_dark_cells, .inl (cI, n_t_dark_cells, .inl t_dark_cells)), (h_t_source, .inr (1, [.ref h_t_source_cells, .int t_source_size])), (h_t_source_cells, .inl (cI, n_t_source_cells, .inl t_source_cells)), (h_a1, .inr (6, [.ref h_a1_cells, .int a1_size, .int a1_most, .int a1_draw, .int a1_changes])), (h_a1_cells, .inl (cI, 48, .inl a1_cells))] sz)) 0 0 (va_A [(h_t, .inr (3, [.ref h_t_source, .ref h_t_real, .ref h_t_dark])), (h_t_dark, .inr (1, [.ref h_t_dark_cells, .int t_dark_size])), (h_t_dark_cells, .inl (cI, n_t_dark_cells, .inl t_dark_cells)), (h_t_source, .inr (1, [.ref h_t_source_cells, .int t_source_size])), (h_t_source_cells, .inl (cI, n_t_source_cells, .inl t_source_cells)), (h_a1, .inr (6, [.ref h_a1_cells, .int a1_size, .int a1_most, .int a1_draw, .int a1_changes])), (h_a1_cells, .inl (cI, 48, .inl a1_cells))] sz) := by
  refine gz_mr (cc := cX6_shadowOf) (maxL := 5) (plainFor_of_name (by decide +kernel)) rfl (Nat.le_of_ble_eq_true rfl) ?_
  intro p e s m below meth c A QQ ls hx hb hml hown0 hts hK hN hA hP hD hS hl ret
  have hown : s.vm.findClass RX6 = some m.cls := hown0
  have hl : lv_has ls 5 [(0, .ref h_t), (1, .ref h_a1), (2, .int x2), (3, .int (1 : Int32))] := hl
  have q0 := hts (.fieldLink RX6 23 "DarkShadows$Shade" "dark" "LDarkShadows$Rows;") (List.mem_cons_of_mem _ (List.mem_append_left _ (List.mem_append_left _ (List.mem_append_left _ (List.mem_append_left _ (List.mem_of_getElem? (i := 0) rfl))))))
  have hinX6 : ∀ w ∈ wsX60, w ∈ wsX6_shadowOf := fun w h => List.mem_cons_of_mem _ (List.mem_append_left _ (List.mem_append_left _ (List.mem_append_right _ h)))
  have hf := hw
  refine lv_aload_n hx hb dX6_shadowOf_0 rfl (lv_at hl 0 rfl) ?_
  refine lv_aload_n hx hb dX6_shadowOf_1 rfl (lv_at hl 1 rfl) ?_
  refine lv_iload_n hx hb dX6_shadowOf_2 rfl (lv_at hl 2 rfl) ?_
  refine gz_v (W1 := (fun u : Int32 × (Nat → Int32) => [(h_t, .inr (3, [.ref h_t_source, .ref h_t_real, .ref h_t_dark])), (h_t_source, .inr (1, [.ref h_t_source_cells, .int u.1])), (h_t_source_cells, .inl (cI, n_t_source_cells, .inl u.2)), (h_a1, .inr (6, [.ref h_a1_cells, .int a1_size, .int a1_most, .int a1_draw, .int a1_changes])), (h_a1_cells, .inl (cI, 48, .inl a1_cells))])) (wn := (fun u : Int32 × (Nat → Int32) => [(h_t, .inr (3, [.ref h_t_source, .ref h_t_real, .ref h_t_dark])), (h_t_dark, .inr (1, [.ref h_t_dark_cells, .int t_dark_size])), (h_t_dark_cells, .inl (cI, n_t_dark_cells, .inl t_dark_cells)), (h_t_source, .inr (1, [.ref h_t_source_cells, .int u.1])), (h_t_source_cells, .inl (cI, n_t_source_cells, .inl u.2)), (h_a1, .inr (6, [.ref h_a1_cells, .int a1_size, .int a1_most, .int a1_draw, .int a1_changes])), (h_a1_cells, .inl (cI, 48, .inl a1_cells))])) (wr := [(h_t_dark, .inr (1, [.ref h_t_dark_cells, .int t_dark_size])), (h_t_dark_cells, .inl (cI, n_t_dark_cells, .inl t_dark_cells))]) (va_runV (As := [.ref h_a1, .int x2]) (rest := []) ⟨hx, hb, hml, hown, hts⟩ (c_X6_gatherRows l dC dI cI cJ cC cZ h_t h_t_source h_t_real h_t_dark h_t_source_cells h_a1 h_a1_cells s.heap.size n_t_source_cells t_source_size t_source_cells a1_size a1_most a1_draw a1_changes a1_cells x2 _ hf) (cwV 2 hts gX6_shadowOf_X6_gatherRows rfl rfl rfl (by decide +kernel) ⟨Nat.le_of_ble_eq_true rfl, Nat.le_of_ble_eq_true rfl⟩) ⟨gz_blind, va_recv hK hP (ci := 3) (q0 := 0) rfl rfl, gz_pre (gz_P_of hP (is := [0, 3, 4, 5, 6]) (wc := [(h_t, .inr (3, [.ref h_t_source, .ref h_t_real, .ref h_t_dark])), (h_t_source, .inr (1, [.ref h_t_source_cells, .int t_source_size])), (h_t_source_cells, .inl (cI, n_t_source_cells, .inl t_source_cells)), (h_a1, .inr (6, [.ref h_a1_cells, .int a1_size, .int a1_most, .int a1_draw, .int a1_changes])), (h_a1_cells, .inl (cI, 48, .inl a1_cells))]) rfl) hK (hD.sub [0, 3, 4, 5, 6] (by decide) rfl) gz_N0⟩ rfl rfl hl.1 rfl (lv_room (Nat.le_of_ble_eq_true rfl)) dX6_shadowOf_3 ⟨Nat.le_refl _, Nat.le_refl _⟩) hP hD hS hA [0, 3, 4, 5, 6] [1, 2] [2, 0, 1, 3, 4, 5, 6] rfl rfl (by decide) (by decide) (fun _ => rfl) (by decide) (fun  u H locs hf hP hD hS => ?_)
  obtain ⟨y1, y2⟩ := u
  have hP : va_P (dC, dI) vwCl [(h_t, .inr (3, [.ref h_t_source, .ref h_t_real, .ref h_t_dark])), (h_t_dark, .inr (1, [.ref h_t_dark_cells, .int t_dark_size])), (h_t_dark_cells, .inl (cI, n_t_dark_cells, .inl t_dark_cells)), (h_t_source, .inr (1, [.ref h_t_source_cells, .int y1])), (h_t_source_cells, .inl (cI, n_t_source_cells, .inl y2)), (h_a1, .inr (6, [.ref h_a1_cells, .int a1_size, .int a1_most, .int a1_draw, .int a1_changes])), (h_a1_cells, .inl (cI, 48, .inl a1_cells))] H := hP
  have hD : va_D A [(h_t, .inr (3, [.ref h_t_source, .ref h_t_real, .ref h_t_dark])), (h_t_dark, .inr (1, [.ref h_t_dark_cells, .int t_dark_size])), (h_t_dark_cells, .inl (cI, n_t_dark_cells, .inl t_dark_cells)), (h_t_source, .inr (1, [.ref h_t_source_cells, .int y1])), (h_t_source_cells, .inl (cI, n_t_source_cells, .inl y2)), (h_a1, .inr (6, [.ref h_a1_cells, .int a1_size, .int a1_most, .int a1_draw, .int a1_changes])), (h_a1_cells, .inl (cI, 48, .inl a1_cells))] := hD
  refine lv_iload_n hx hb dX6_shadowOf_6 rfl (lv_at hl 3 rfl) ?_
  refine lv_if_eq (tgt := 17) hx hb dX6_shadowOf_7 (by decide) (fun hc => absurd hc (by decide)) (fun hc => ?_)
  refine lv_aload_n hx hb dX6_shadowOf_10 rfl (lv_at hl 0 rfl) ?_
  refine va_get (D := (dC, dI)) (ci := 3) (v := .ref h_t_dark) (C := RX6) (T := TX6) (N := 3) hx hb hts hinX6 hown hK hP 0 rfl rfl 2 (by decide) q0 (fun _ h9 => h9) rfl dX6_shadowOf_11 ?_
  refine lv_goto (tgt := 21) hx hb dX6_shadowOf_14 (by decide) ?_
  refine lv_astore (lv' := [(4, .ref h_t_dark), (0, .ref h_t), (1, .ref h_a1), (2, .int x2), (3, .int (1 : Int32))]) hx hb dX6_shadowOf_21 hl (by decide) rfl (fun ls hl => ?_)
  refine lv_aload_n hx hb dX6_shadowOf_23 rfl (lv_at hl 1 rfl) ?_
  refine lv_aload hx hb dX6_shadowOf_24 (lv_at hl 0 rfl) ?_
  refine lv_iload_n hx hb dX6_shadowOf_26 rfl (lv_at hl 3 rfl) ?_
  refine lv_iload_n hx hb dX6_shadowOf_27 rfl (lv_at hl 4 rfl) ?_
  refine gz_v (W1 := (fun u : Int32 × (Nat → Int32) => [(h_t, .inr (3, [.ref h_t_source, .ref h_t_real, .ref h_t_dark])), (h_t_source, .inr (1, [.ref h_t_source_cells, .int y1])), (h_t_source_cells, .inl (cI, n_t_source_cells, .inl y2)), (h_t_dark, .inr (1, [.ref h_t_dark_cells, .int u.1])), (h_t_dark_cells, .inl (cI, n_t_dark_cells, .inl u.2))])) (wn := (fun u : Int32 × (Nat → Int32) => [(h_t, .inr (3, [.ref h_t_source, .ref h_t_real, .ref h_t_dark])), (h_t_dark, .inr (1, [.ref h_t_dark_cells, .int u.1])), (h_t_dark_cells, .inl (cI, n_t_dark_cells, .inl u.2)), (h_t_source, .inr (1, [.ref h_t_source_cells, .int y1])), (h_t_source_cells, .inl (cI, n_t_source_cells, .inl y2)), (h_a1, .inr (6, [.ref h_a1_cells, .int a1_size, .int a1_most, .int a1_draw, .int a1_changes])), (h_a1_cells, .inl (cI, 48, .inl a1_cells))])) (wr := [(h_a1, .inr (6, [.ref h_a1_cells, .int a1_size, .int a1_most, .int a1_draw, .int a1_changes])), (h_a1_cells, .inl (cI, 48, .inl a1_cells))]) (va_runV (As := [.ref h_t_dark, .int x2, .int (1 : Int32)]) (rest := []) ⟨hx, hb, hml, hown, hts⟩ (c_X6_castShadow l dC dI cI cJ cC cZ h_t h_t_source h_t_real h_t_dark h_t_source_cells h_t_dark h_t_dark_cells H.size n_t_source_cells n_t_dark_cells y1 y2 t_dark_size t_dark_cells x2 (1 : Int32) _ hf) (cwV 3 hts gX6_shadowOf_X6_castShadow rfl rfl rfl (by decide +kernel) ⟨Nat.le_of_ble_eq_true rfl, Nat.le_of_ble_eq_true rfl⟩) ⟨gz_blind, va_recv hK hP (ci := 3) (q0 := 0) rfl rfl, gz_pre (gz_P_of hP (is := [0, 3, 4, 1, 2]) (wc := [(h_t, .inr (3, [.ref h_t_source, .ref h_t_real, .ref h_t_dark])), (h_t_source, .inr (1, [.ref h_t_source_cells, .int y1])), (h_t_source_cells, .inl (cI, n_t_source_cells, .inl y2)), (h_t_dark, .inr (1, [.ref h_t_dark_cells, .int t_dark_size])), (h_t_dark_cells, .inl (cI, n_t_dark_cells, .inl t_dark_cells))]) rfl) hK (hD.sub [0, 3, 4, 1, 2] (by decide) rfl) gz_N0⟩ rfl rfl hl.1 rfl (lv_room (Nat.le_of_ble_eq_true rfl)) dX6_shadowOf_28 ⟨Nat.le_refl _, Nat.le_refl _⟩) hP hD hS hA [0, 3, 4, 1, 2] [5, 6] [2, 5, 6, 3, 4, 0, 1] rfl rfl (by decide) (by decide) (fun _ => rfl) (by decide) (fun  u H locs hf hP hD hS => ?_)
  obtain ⟨y3, y4⟩ := u
  have hP : va_P (dC, dI) vwCl [(h_t, .inr (3, [.ref h_t_source, .ref h_t_real, .ref h_t_dark])), (h_t_dark, .inr (1, [.ref h_t_dark_cells, .int y3])), (h_t_dark_cells, .inl (cI, n_t_dark_cells, .inl y4)), (h_t_source, .inr (1, [.ref h_t_source_cells, .int y1])), (h_t_source_cells, .inl (cI, n_t_source_cells, .inl y2)), (h_a1, .inr (6, [.ref h_a1_cells, .int a1_size, .int a1_most, .int a1_draw, .int a1_changes])), (h_a1_cells, .inl (cI, 48, .inl a1_cells))] H := hP
  have hD : va_D A [(h_t, .inr (3, [.ref h_t_source, .ref h_t_real, .ref h_t_dark])), (h_t_dark, .inr (1, [.ref h_t_dark_cells, .int y3])), (h_t_dark_cells, .inl (cI, n_t_dark_cells, .inl y4)), (h_t_source, .inr (1, [.ref h_t_source_cells, .int y1])), (h_t_source_cells, .inl (cI, n_t_source_cells, .inl y2)), (h_a1, .inr (6, [.ref h_a1_cells, .int a1_size, .int a1_most, .int a1_draw, .int a1_changes])), (h_a1_cells, .inl (cI, 48, .inl a1_cells))] := hD
  refine lv_aload hx hb dX6_shadowOf_31 (lv_at hl 0 rfl) ?_
  exact ret _ _ _ _ (y3, y4, y1, y2) hf hP hD hS dX6_shadowOf_33
abbrev rm_X6_shadowOf_k0 : Room := { frames := 5, cells := 0, slots := 0, locals := 125 }
set_option maxHeartbeats 4000000 in
set_option maxRecDepth 100000 in
theorem c_X6_shadowOf_k0 (l : Launch) (dC : Nat → ClassId) (dI : Nat → Nat → Nat) (cI cJ cC cZ : ClassId) (h_t h_t_source h_t_real h_t_dark h_t_real_cells h_t_source_cells h_a1 h_a1_cells : Nat) (sz : Nat) (n_t_real_cells : Nat) (n_t_source_cells : Nat) (t_real_size : Int32) (t_real_cells : Nat → Int32) (t_source_size : Int32) (t_source_cells : Nat → Int32) (a1_size : Int32) (a1_most : Int32) (a1_draw : Int32) (a1_changes : Int32) (a1_cells : Nat → Int32) (x2 : Int32) (Q : Int32 → (Nat → Int32) → Int32 → (Nat → Int32) → Prop) (hw : p_X6_shadowOf_k0 n_t_real_cells n_t_source_cells t_real_size t_real_cells t_source_size t_source_cells a1_size a1_most a1_cells x2 Q) : Met l yX6_shadowOf wsX6_shadowOf rm_X6_shadowOf_k0 (va_Pc [.ref h_t, .ref h_a1, .int x2, .int (0 : Int32)] (gz_B (dC, dI) (gz_T cI cJ cC cZ) [] sz [(h_t, .inr (3, [.ref h_t_source, .ref h_t_real, .ref h_t_dark])), (h_t_real, .inr (1, [.ref h_t_real_cells, .int t_real_size])), (h_t_real_cells, .inl (cI, n_t_real_cells, .inl t_real_cells)), (h_t_source, .inr (1, [.ref h_t_source_cells, .int t_source_size])), (h_t_source_cells, .inl (cI, n_t_source_cells, .inl t_source_cells)), (h_a1, .inr (6, [.ref h_a1_cells, .int a1_size, .int a1_most, .int a1_draw, .int a1_changes])), (h_a1_cells, .inl (cI, 48, .inl a1_cells))])) (va_Qr (fun (u : Int32 × (Nat → Int32) × Int32 × (Nat → Int32)) => Q u.1 u.2.1 u.2.2.1 u.2.2.2) (fun u b t => b = h_t_real ∧ gz_E (dC, dI) (gz_T cI cJ cC cZ) (va_A [(h_t, .inr (3, [.ref h_t_source, .ref h_t_real, .ref h_t_dark])), (h_t_real, .inr (1, [.ref h_t_real_cells, .int t_real_size])), (h_t_real_cells, .inl (cI, n_t_real_cells, .inl t_real_cells)), (h_t_source, .inr (1, [.ref h_t_source_cells, .int t_source_size])), (h_t_source_cells, .inl (cI, n_t_source_cells, .inl t_source_cells)), (h_a1, .inr (6, [.ref h_a1_cells, .int a1_size, .int a1_most, .int a1_draw, .int a1_changes])), (h_a1_cells, .inl (cI, 48, .inl a1_cells))] sz) [(h_t, .inr (3, [.ref h_t_source, .ref h_t_real, .ref h_t_dark])), (h_t_real, .inr (1, [.ref h_t_real_cells, .int u.1])), (h_t_real_cells, .inl (cI, n_t_real_cells, .inl u.2.1)), (h_t_source, .inr (1, [.ref h_t_source_cells, .int u.2.2.1])), (h_t_source_cells, .inl (cI, n_t_source_cells, .inl u.2.2.2)), (h_a1, .inr (6, [.ref h_a1_cells, .int a1_size, .int a1_most, .int a1_draw, .int a1_changes])), (h_a1_cells, .inl (cI, 48, .inl a1_cells))] t) (va_A [(h_t, .inr (3, [.ref h_t_source, .ref h_t_real, .ref h_t_dark])), (h_t_real, .inr (1, [.ref h_t_real_cells, .int t_real_size])), (h_t_real_cells, .inl (cI, n_t_real_cells, .inl t_real_cells)), (h_t_source, .inr (1, [.ref h_t_source_cells, .int t_source_size])), (h_t_source_cells, .inl (cI, n_t_source_cells, .inl t_source_cells)), (h_a1, .inr (6, [.ref h_a1_cells, .int a1_size, .int a1_most, .int a1_draw, .int a1_changes])), (h_a1_cells, .inl (cI, 48, .inl a1_cells))] sz)) 0 0 (va_A [(h_t, .inr (3, [.ref h_t_source, .ref h_t_real, .ref h_t_dark])), (h_t_real, .inr (1, [.ref h_t_real_cells, .int t_real_size])), (h_t_real_cells, .inl (cI, n_t_real_cells, .inl t_real_cells)), (h_t_source, .inr (1, [.ref h_t_source_cells, .int t_source_size])), (h_t_source_cells, .inl (cI, n_t_source_cells, .inl t_source_cells)), (h_a1, .inr (6, [.ref h_a1_cells, .int a1_size, .int a1_most, .int a1_draw, .int a1_changes])), (h_a1_cells, .inl (cI, 48, .inl a1_cells))] sz) := by
  refine gz_mr (cc := cX6_shadowOf) (maxL := 5) (plainFor_of_name (by decide +kernel)) rfl (Nat.le_of_ble_eq_true rfl) ?_
  intro p e s m below meth c A QQ ls hx hb hml hown0 hts hK hN hA hP hD hS hl ret
  have hown : s.vm.findClass RX6 = some m.cls := hown0
  have hl : lv_has ls 5 [(0, .ref h_t), (1, .ref h_a1), (2, .int x2), (3, .int (0 : Int32))] := hl
  have q0 := hts (.fieldLink RX6 20 "DarkShadows$Shade" "real" "LDarkShadows$Rows;") (List.mem_cons_of_mem _ (List.mem_append_left _ (List.mem_append_left _ (List.mem_append_left _ (List.mem_append_left _ (List.mem_of_getElem? (i := 1) rfl))))))
  have hinX6 : ∀ w ∈ wsX60, w ∈ wsX6_shadowOf := fun w h => List.mem_cons_of_mem _ (List.mem_append_left _ (List.mem_append_left _ (List.mem_append_right _ h)))
  have hf := hw
  refine lv_aload_n hx hb dX6_shadowOf_0 rfl (lv_at hl 0 rfl) ?_
  refine lv_aload_n hx hb dX6_shadowOf_1 rfl (lv_at hl 1 rfl) ?_
  refine lv_iload_n hx hb dX6_shadowOf_2 rfl (lv_at hl 2 rfl) ?_
  refine gz_v (W1 := (fun u : Int32 × (Nat → Int32) => [(h_t, .inr (3, [.ref h_t_source, .ref h_t_real, .ref h_t_dark])), (h_t_source, .inr (1, [.ref h_t_source_cells, .int u.1])), (h_t_source_cells, .inl (cI, n_t_source_cells, .inl u.2)), (h_a1, .inr (6, [.ref h_a1_cells, .int a1_size, .int a1_most, .int a1_draw, .int a1_changes])), (h_a1_cells, .inl (cI, 48, .inl a1_cells))])) (wn := (fun u : Int32 × (Nat → Int32) => [(h_t, .inr (3, [.ref h_t_source, .ref h_t_real, .ref h_t_dark])), (h_t_real, .inr (1, [.ref h_t_real_cells, .int t_real_size])), (h_t_real_cells, .inl (cI, n_t_real_cells, .inl t_real_cells)), (h_t_source, .inr (1, [.ref h_t_source_cells, .int u.1])), (h_t_source_cells, .inl (cI, n_t_source_cells, .inl u.2)), (h_a1, .inr (6, [.ref h_a1_cells, .int a1_size, .int a1_most, .int a1_draw, .int a1_changes])), (h_a1_cells, .inl (cI, 48, .inl a1_cells))])) (wr := [(h_t_real, .inr (1, [.ref h_t_real_cells, .int t_real_size])), (h_t_real_cells, .inl (cI, n_t_real_cells, .inl t_real_cells))]) (va_runV (As := [.ref h_a1, .int x2]) (rest := []) ⟨hx, hb, hml, hown, hts⟩ (c_X6_gatherRows l dC dI cI cJ cC cZ h_t h_t_source h_t_real h_t_dark h_t_source_cells h_a1 h_a1_cells s.heap.size n_t_source_cells t_source_size t_source_cells a1_size a1_most a1_draw a1_changes a1_cells x2 _ hf) (cwV 2 hts gX6_shadowOf_X6_gatherRows rfl rfl rfl (by decide +kernel) ⟨Nat.le_of_ble_eq_true rfl, Nat.le_of_ble_eq_true rfl⟩) ⟨gz_blind, va_recv hK hP (ci := 3) (q0 := 0) rfl rfl, gz_pre (gz_P_of hP (is := [0, 3, 4, 5, 6]) (wc := [(h_t, .inr (3, [.ref h_t_source, .ref h_t_real, .ref h_t_dark])), (h_t_source, .inr (1, [.ref h_t_source_cells, .int t_source_size])), (h_t_source_cells, .inl (cI, n_t_source_cells, .inl t_source_cells)), (h_a1, .inr (6, [.ref h_a1_cells, .int a1_size, .int a1_most, .int a1_draw, .int a1_changes])), (h_a1_cells, .inl (cI, 48, .inl a1_cells))]) rfl) hK (hD.sub [0, 3, 4, 5, 6] (by decide) rfl) gz_N0⟩ rfl rfl hl.1 rfl (lv_room (Nat.le_of_ble_eq_true rfl)) dX6_shadowOf_3 ⟨Nat.le_refl _, Nat.le_refl _⟩) hP hD hS hA [0, 3, 4, 5, 6] [1, 2] [2, 0, 1, 3, 4, 5, 6] rfl rfl (by decide) (by decide) (fun _ => rfl) (by decide) (fun  u H locs hf hP hD hS => ?_)
  obtain ⟨y1, y2⟩ := u
  have hP : va_P (dC, dI) vwCl [(h_t, .inr (3, [.ref h_t_source, .ref h_t_real, .ref h_t_dark])), (h_t_real, .inr (1, [.ref h_t_real_cells, .int t_real_size])), (h_t_real_cells, .inl (cI, n_t_real_cells, .inl t_real_cells)), (h_t_source, .inr (1, [.ref h_t_source_cells, .int y1])), (h_t_source_cells, .inl (cI, n_t_source_cells, .inl y2)), (h_a1, .inr (6, [.ref h_a1_cells, .int a1_size, .int a1_most, .int a1_draw, .int a1_changes])), (h_a1_cells, .inl (cI, 48, .inl a1_cells))] H := hP
  have hD : va_D A [(h_t, .inr (3, [.ref h_t_source, .ref h_t_real, .ref h_t_dark])), (h_t_real, .inr (1, [.ref h_t_real_cells, .int t_real_size])), (h_t_real_cells, .inl (cI, n_t_real_cells, .inl t_real_cells)), (h_t_source, .inr (1, [.ref h_t_source_cells, .int y1])), (h_t_source_cells, .inl (cI, n_t_source_cells, .inl y2)), (h_a1, .inr (6, [.ref h_a1_cells, .int a1_size, .int a1_most, .int a1_draw, .int a1_changes])), (h_a1_cells, .inl (cI, 48, .inl a1_cells))] := hD
  refine lv_iload_n hx hb dX6_shadowOf_6 rfl (lv_at hl 3 rfl) ?_
  refine lv_if_eq (tgt := 17) hx hb dX6_shadowOf_7 (by decide) (fun hc => ?_) (fun hc => absurd (by decide) hc)
  refine lv_aload_n hx hb dX6_shadowOf_17 rfl (lv_at hl 0 rfl) ?_
  refine va_get (D := (dC, dI)) (ci := 3) (v := .ref h_t_real) (C := RX6) (T := TX6) (N := 3) hx hb hts hinX6 hown hK hP 0 rfl rfl 1 (by decide) q0 (fun _ h9 => h9) rfl dX6_shadowOf_18 ?_
  refine lv_astore (lv' := [(4, .ref h_t_real), (0, .ref h_t), (1, .ref h_a1), (2, .int x2), (3, .int (0 : Int32))]) hx hb dX6_shadowOf_21 hl (by decide) rfl (fun ls hl => ?_)
  refine lv_aload_n hx hb dX6_shadowOf_23 rfl (lv_at hl 1 rfl) ?_
  refine lv_aload hx hb dX6_shadowOf_24 (lv_at hl 0 rfl) ?_
  refine lv_iload_n hx hb dX6_shadowOf_26 rfl (lv_at hl 3 rfl) ?_
  refine lv_iload_n hx hb dX6_shadowOf_27 rfl (lv_at hl 4 rfl) ?_
  refine gz_v (W1 := (fun u : Int32 × (Nat → Int32) => [(h_t, .inr (3, [.ref h_t_source, .ref h_t_real, .ref h_t_dark])), (h_t_source, .inr (1, [.ref h_t_source_cells, .int y1])), (h_t_source_cells, .inl (cI, n_t_source_cells, .inl y2)), (h_t_real, .inr (1, [.ref h_t_real_cells, .int u.1])), (h_t_real_cells, .inl (cI, n_t_real_cells, .inl u.2))])) (wn := (fun u : Int32 × (Nat → Int32) => [(h_t, .inr (3, [.ref h_t_source, .ref h_t_real, .ref h_t_dark])), (h_t_real, .inr (1, [.ref h_t_real_cells, .int u.1])), (h_t_real_cells, .inl (cI, n_t_real_cells, .inl u.2)), (h_t_source, .inr (1, [.ref h_t_source_cells, .int y1])), (h_t_source_cells, .inl (cI, n_t_source_cells, .inl y2)), (h_a1, .inr (6, [.ref h_a1_cells, .int a1_size, .int a1_most, .int a1_draw, .int a1_changes])), (h_a1_cells, .inl (cI, 48, .inl a1_cells))])) (wr := [(h_a1, .inr (6, [.ref h_a1_cells, .int a1_size, .int a1_most, .int a1_draw, .int a1_changes])), (h_a1_cells, .inl (cI, 48, .inl a1_cells))]) (va_runV (As := [.ref h_t_real, .int x2, .int (0 : Int32)]) (rest := []) ⟨hx, hb, hml, hown, hts⟩ (c_X6_castShadow l dC dI cI cJ cC cZ h_t h_t_source h_t_real h_t_dark h_t_source_cells h_t_real h_t_real_cells H.size n_t_source_cells n_t_real_cells y1 y2 t_real_size t_real_cells x2 (0 : Int32) _ hf) (cwV 3 hts gX6_shadowOf_X6_castShadow rfl rfl rfl (by decide +kernel) ⟨Nat.le_of_ble_eq_true rfl, Nat.le_of_ble_eq_true rfl⟩) ⟨gz_blind, va_recv hK hP (ci := 3) (q0 := 0) rfl rfl, gz_pre (gz_P_of hP (is := [0, 3, 4, 1, 2]) (wc := [(h_t, .inr (3, [.ref h_t_source, .ref h_t_real, .ref h_t_dark])), (h_t_source, .inr (1, [.ref h_t_source_cells, .int y1])), (h_t_source_cells, .inl (cI, n_t_source_cells, .inl y2)), (h_t_real, .inr (1, [.ref h_t_real_cells, .int t_real_size])), (h_t_real_cells, .inl (cI, n_t_real_cells, .inl t_real_cells))]) rfl) hK (hD.sub [0, 3, 4, 1, 2] (by decide) rfl) gz_N0⟩ rfl rfl hl.1 rfl (lv_room (Nat.le_of_ble_eq_true rfl)) dX6_shadowOf_28 ⟨Nat.le_refl _, Nat.le_refl _⟩) hP hD hS hA [0, 3, 4, 1, 2] [5, 6] [2, 5, 6, 3, 4, 0, 1] rfl rfl (by decide) (by decide) (fun _ => rfl) (by decide) (fun  u H locs hf hP hD hS => ?_)
  obtain ⟨y3, y4⟩ := u
  have hP : va_P (dC, dI) vwCl [(h_t, .inr (3, [.ref h_t_source, .ref h_t_real, .ref h_t_dark])), (h_t_real, .inr (1, [.ref h_t_real_cells, .int y3])), (h_t_real_cells, .inl (cI, n_t_real_cells, .inl y4)), (h_t_source, .inr (1, [.ref h_t_source_cells, .int y1])), (h_t_source_cells, .inl (cI, n_t_source_cells, .inl y2)), (h_a1, .inr (6, [.ref h_a1_cells, .int a1_size, .int a1_most, .int a1_draw, .int a1_changes])), (h_a1_cells, .inl (cI, 48, .inl a1_cells))] H := hP
  have hD : va_D A [(h_t, .inr (3, [.ref h_t_source, .ref h_t_real, .ref h_t_dark])), (h_t_real, .inr (1, [.ref h_t_real_cells, .int y3])), (h_t_real_cells, .inl (cI, n_t_real_cells, .inl y4)), (h_t_source, .inr (1, [.ref h_t_source_cells, .int y1])), (h_t_source_cells, .inl (cI, n_t_source_cells, .inl y2)), (h_a1, .inr (6, [.ref h_a1_cells, .int a1_size, .int a1_most, .int a1_draw, .int a1_changes])), (h_a1_cells, .inl (cI, 48, .inl a1_cells))] := hD
  refine lv_aload hx hb dX6_shadowOf_31 (lv_at hl 0 rfl) ?_
  exact ret _ _ _ _ (y3, y4, y1, y2) hf hP hD hS dX6_shadowOf_33
abbrev rm_X10_isNoSheetOrLane : Room := { frames := 1, cells := 0, slots := 0, locals := 22 }
set_option maxHeartbeats 4000000 in
set_option maxRecDepth 100000 in
theorem c_X10_isNoSheetOrLane (l : Launch) (dC : Nat → ClassId) (dI : Nat → Nat → Nat) (cI cJ cC cZ : ClassId) (sz : Nat) (x0 : Int32) (x1 : Int32) (Q : Int32 → Prop) (hw : p_X10_isNoSheetOrLane x0 x1 Q) : Met l yX10_isNoSheetOrLane wsX10_isNoSheetOrLane rm_X10_isNoSheetOrLane (va_Pc [.int x0, .int x1] (gz_B (dC, dI) (gz_T cI cJ cC cZ) [] sz [])) (va_Qi (fun (r : Int32) (u : Unit) => Q r) (fun u t => gz_E (dC, dI) (gz_T cI cJ cC cZ) (va_A [] sz) [] t) (va_A [] sz)) 0 0 (va_A [] sz) := by
  refine gz_mz (cc := cX10_isNoSheetOrLane) (maxL := 2) (plainFor_of_name (by decide +kernel)) rfl (Nat.le_of_ble_eq_true rfl) ?_
  intro p e s m below meth c A QQ ls hx hb hml hown0 hts hK hN hA hP hD hS hl ret
  have hown : s.vm.findClass RX10 = some m.cls := hown0
  have hl : lv_has ls 2 [(0, .int x0), (1, .int x1)] := hl
  have hf := hw
  refine lv_iload_n hx hb dX10_isNoSheetOrLane_0 rfl (lv_at hl 0 rfl) ?_
  refine lv_iconst (v := (0 : Int32)) hx hb dX10_isNoSheetOrLane_1 (by decide) ?_
  refine lv_iconst (v := (3 : Int32)) hx hb dX10_isNoSheetOrLane_2 (by decide) ?_
  refine gz_i0 (va_runS (As := [.int x0, .int (0 : Int32), .int (3 : Int32)]) (rest := []) ⟨hx, hb, hml, hown, hts⟩ (c_X10_outside l dC dI cI cJ cC cZ s.heap.size x0 (0 : Int32) (3 : Int32) _ hf) (va_cwS 3 hts gX10_isNoSheetOrLane_X10_outside rfl rfl rfl (by decide +kernel) ⟨Nat.le_of_ble_eq_true rfl, Nat.le_of_ble_eq_true rfl⟩) ⟨gz_blind, gz_pre (gz_P_of hP (is := []) (wc := []) rfl) hK (hD.sub [] (by decide) rfl) gz_N0⟩ rfl rfl hl.1 rfl (lv_room (Nat.le_of_ble_eq_true rfl)) dX10_isNoSheetOrLane_3 ⟨Nat.le_refl _, Nat.le_refl _⟩) hP hD hS hA (fun r1 H locs hf hP hS => ?_)
  refine lv_if_ne (tgt := 18) hx hb dX10_isNoSheetOrLane_6 (by decide) (fun hc4 => ?_) (fun hc4 => ?_)
  · have hf := hf.2 hc4
    refine lv_iconst (v := (1 : Int32)) hx hb dX10_isNoSheetOrLane_18 (by decide) ?_
    refine lv_goto (tgt := 23) hx hb dX10_isNoSheetOrLane_19 (by decide) ?_
    exact ret _ _ _ _ (1 : Int32) () rfl hf hP hD hS dX10_isNoSheetOrLane_23
  · have hf := hf.1 hc4
    refine lv_iload_n hx hb dX10_isNoSheetOrLane_9 rfl (lv_at hl 1 rfl) ?_
    refine lv_iconst (v := (0 : Int32)) hx hb dX10_isNoSheetOrLane_10 (by decide) ?_
    refine lv_iconst (v := (3 : Int32)) hx hb dX10_isNoSheetOrLane_11 (by decide) ?_
    refine gz_i0 (va_runS (As := [.int x1, .int (0 : Int32), .int (3 : Int32)]) (rest := []) ⟨hx, hb, hml, hown, hts⟩ (c_X10_outside l dC dI cI cJ cC cZ H.size x1 (0 : Int32) (3 : Int32) _ hf) (va_cwS 3 hts gX10_isNoSheetOrLane_X10_outside rfl rfl rfl (by decide +kernel) ⟨Nat.le_of_ble_eq_true rfl, Nat.le_of_ble_eq_true rfl⟩) ⟨gz_blind, gz_pre (gz_P_of hP (is := []) (wc := []) rfl) hK (hD.sub [] (by decide) rfl) gz_N0⟩ rfl rfl hl.1 rfl (lv_room (Nat.le_of_ble_eq_true rfl)) dX10_isNoSheetOrLane_12 ⟨Nat.le_refl _, Nat.le_refl _⟩) hP hD hS hA (fun r2 H locs hf hP hS => ?_)
    refine lv_if_eq (tgt := 22) hx hb dX10_isNoSheetOrLane_15 (by decide) (fun hc3 => ?_) (fun hc3 => ?_)
    · have hf := hf.1 hc3
      refine lv_iconst (v := (0 : Int32)) hx hb dX10_isNoSheetOrLane_22 (by decide) ?_
      exact ret _ _ _ _ (0 : Int32) () rfl hf hP hD hS dX10_isNoSheetOrLane_23
    · have hf := hf.2 hc3
      refine lv_iconst (v := (1 : Int32)) hx hb dX10_isNoSheetOrLane_18 (by decide) ?_
      refine lv_goto (tgt := 23) hx hb dX10_isNoSheetOrLane_19 (by decide) ?_
      exact ret _ _ _ _ (1 : Int32) () rfl hf hP hD hS dX10_isNoSheetOrLane_23
