abbrev rm_X1_holds : Room := { frames := 0, cells := 0, slots := 0, locals := 0 }
set_option maxHeartbeats 4000000 in
set_option maxRecDepth 100000 in
theorem c_X1_holds (l : Launch) (dC : Nat → ClassId) (dI : Nat → Nat → Nat) (cI cJ cC cZ : ClassId) (sz : Nat) (x0 : Int32) (x1 : Int32) (Q : Int32 → Prop) (hw : p_X1_holds x0 x1 Q) : Met l yX1_holds wsX1_holds rm_X1_holds (va_Pc [.int x0, .int x1] (gz_B (dC, dI) (gz_T cI cJ cC cZ) [] sz [])) (va_Qi (fun (r : Int32) (u : Unit) => Q r) (fun u t => gz_E (dC, dI) (gz_T cI cJ cC cZ) (va_A [] sz) [] t) (va_A [] sz)) 0 0 (va_A [] sz) := by
  refine gz_mz (cc := cX1_holds) (maxL := 2) (plainFor_of_name (by decide +kernel)) rfl (Nat.le_of_ble_eq_true rfl) ?_
  intro p e s m below meth c A QQ ls hx hb hml hown0 hts hK hN hA hP hD hS hl ret
  have hown : s.vm.findClass RX1 = some m.cls := hown0
  have hl : lv_has ls 2 [(0, .int x0), (1, .int x1)] := hl
  have hf := hw
  refine lv_iload_n hx hb dX1_holds_0 rfl (lv_at hl 0 rfl) ?_
  by_cases hc6 : x0 = (0 : Int32)
  · have hf := hf.1 hc6
    refine lv_tableIn (off := 31) (tgt := 32) hx hb dX1_holds_1 (by rw [hc6]; decide) (by rw [hc6]; decide) (by rw [hc6]; rfl) (by decide) ?_
    refine lv_iload_n hx hb dX1_holds_32 rfl (lv_at hl 1 rfl) ?_
    refine lv_if_lt (tgt := 40) hx hb dX1_holds_33 (by decide) (fun hc1 => ?_) (fun hc1 => ?_)
    · have hf := hf.1 hc1
      refine lv_iconst (v := (0 : Int32)) hx hb dX1_holds_40 (by decide) ?_
      exact ret _ _ _ _ (0 : Int32) () rfl hf hP hD hS dX1_holds_41
    · have hf := hf.2 hc1
      refine lv_iconst (v := (1 : Int32)) hx hb dX1_holds_36 (by decide) ?_
      refine lv_goto (tgt := 41) hx hb dX1_holds_37 (by decide) ?_
      exact ret _ _ _ _ (1 : Int32) () rfl hf hP hD hS dX1_holds_41
  · have hf := hf.2 hc6
    by_cases hc7 : x0 = (1 : Int32)
    · have hf := hf.1 hc7
      refine lv_tableIn (off := 41) (tgt := 42) hx hb dX1_holds_1 (by rw [hc7]; decide) (by rw [hc7]; decide) (by rw [hc7]; rfl) (by decide) ?_
      refine lv_iload_n hx hb dX1_holds_42 rfl (lv_at hl 1 rfl) ?_
      refine lv_if_gt (tgt := 50) hx hb dX1_holds_43 (by decide) (fun hc2 => ?_) (fun hc2 => ?_)
      · have hf := hf.1 hc2
        refine lv_iconst (v := (0 : Int32)) hx hb dX1_holds_50 (by decide) ?_
        exact ret _ _ _ _ (0 : Int32) () rfl hf hP hD hS dX1_holds_51
      · have hf := hf.2 hc2
        refine lv_iconst (v := (1 : Int32)) hx hb dX1_holds_46 (by decide) ?_
        refine lv_goto (tgt := 51) hx hb dX1_holds_47 (by decide) ?_
        exact ret _ _ _ _ (1 : Int32) () rfl hf hP hD hS dX1_holds_51
    · have hf := hf.2 hc7
      by_cases hc8 : x0 = (2 : Int32)
      · have hf := hf.1 hc8
        refine lv_tableIn (off := 51) (tgt := 52) hx hb dX1_holds_1 (by rw [hc8]; decide) (by rw [hc8]; decide) (by rw [hc8]; rfl) (by decide) ?_
        refine lv_iload_n hx hb dX1_holds_52 rfl (lv_at hl 1 rfl) ?_
        refine lv_if_ne (tgt := 60) hx hb dX1_holds_53 (by decide) (fun hc3 => ?_) (fun hc3 => ?_)
        · have hf := hf.2 hc3
          refine lv_iconst (v := (0 : Int32)) hx hb dX1_holds_60 (by decide) ?_
          exact ret _ _ _ _ (0 : Int32) () rfl hf hP hD hS dX1_holds_61
        · have hf := hf.1 hc3
          refine lv_iconst (v := (1 : Int32)) hx hb dX1_holds_56 (by decide) ?_
          refine lv_goto (tgt := 61) hx hb dX1_holds_57 (by decide) ?_
          exact ret _ _ _ _ (1 : Int32) () rfl hf hP hD hS dX1_holds_61
      · have hf := hf.2 hc8
        by_cases hc9 : x0 = (3 : Int32)
        · have hf := hf.1 hc9
          refine lv_tableIn (off := 61) (tgt := 62) hx hb dX1_holds_1 (by rw [hc9]; decide) (by rw [hc9]; decide) (by rw [hc9]; rfl) (by decide) ?_
          refine lv_iload_n hx hb dX1_holds_62 rfl (lv_at hl 1 rfl) ?_
          refine lv_if_eq (tgt := 70) hx hb dX1_holds_63 (by decide) (fun hc4 => ?_) (fun hc4 => ?_)
          · have hf := hf.1 hc4
            refine lv_iconst (v := (0 : Int32)) hx hb dX1_holds_70 (by decide) ?_
            exact ret _ _ _ _ (0 : Int32) () rfl hf hP hD hS dX1_holds_71
          · have hf := hf.2 hc4
            refine lv_iconst (v := (1 : Int32)) hx hb dX1_holds_66 (by decide) ?_
            refine lv_goto (tgt := 71) hx hb dX1_holds_67 (by decide) ?_
            exact ret _ _ _ _ (1 : Int32) () rfl hf hP hD hS dX1_holds_71
        · have hf := hf.2 hc9
          refine lv_tableOut (tgt := 72) hx hb dX1_holds_1 (gz_out4 hc6 hc7 hc8 hc9) (by decide) ?_
          refine lv_iload_n hx hb dX1_holds_72 rfl (lv_at hl 1 rfl) ?_
          refine lv_iconst (v := (1 : Int32)) hx hb dX1_holds_73 (by decide) ?_
          refine lv_iand hx hb dX1_holds_74 ?_
          refine lv_if_ne (tgt := 82) hx hb dX1_holds_75 (by decide) (fun hc5 => ?_) (fun hc5 => ?_)
          · have hf := hf.2 hc5
            refine lv_iconst (v := (0 : Int32)) hx hb dX1_holds_82 (by decide) ?_
            exact ret _ _ _ _ (0 : Int32) () rfl hf hP hD hS dX1_holds_83
          · have hf := hf.1 hc5
            refine lv_iconst (v := (1 : Int32)) hx hb dX1_holds_78 (by decide) ?_
            refine lv_goto (tgt := 83) hx hb dX1_holds_79 (by decide) ?_
            exact ret _ _ _ _ (1 : Int32) () rfl hf hP hD hS dX1_holds_83
abbrev rm_X1_lacking : Room := { frames := 1, cells := 0, slots := 0, locals := 24 }
set_option maxHeartbeats 4000000 in
set_option maxRecDepth 100000 in
theorem c_X1_lacking (l : Launch) (dC : Nat → ClassId) (dI : Nat → Nat → Nat) (cI cJ cC cZ : ClassId) (sz : Nat) (x0 : Int32) (x1 : Int32) (Q : Int32 → Prop) (hw : p_X1_lacking x0 x1 Q) : Met l yX1_lacking wsX1_lacking rm_X1_lacking (va_Pc [.int x0, .int x1] (gz_B (dC, dI) (gz_T cI cJ cC cZ) [] sz [])) (va_Qi (fun (r : Int32) (u : Unit) => Q r) (fun u t => gz_E (dC, dI) (gz_T cI cJ cC cZ) (va_A [] sz) [] t) (va_A [] sz)) 0 0 (va_A [] sz) := by
  refine gz_mi (cc := cX1_lacking) (maxL := 2) (plainFor_of_name (by decide +kernel)) rfl (Nat.le_of_ble_eq_true rfl) ?_
  intro p e s m below meth c A QQ ls hx hb hml hown0 hts hK hN hA hP hD hS hl ret
  have hown : s.vm.findClass RX1 = some m.cls := hown0
  have hl : lv_has ls 2 [(0, .int x0), (1, .int x1)] := hl
  have q0 := hts (.methodLink RX1 9 Lib.Math.max.name) (List.mem_cons_of_mem _ (List.mem_of_getElem? (i := 0) rfl))
  have q1 := hts (.static Lib.Math.max.name) (List.mem_cons_of_mem _ (List.mem_of_getElem? (i := 1) rfl))
  have q2 := hts (.initialized "java/lang/Math") (List.mem_cons_of_mem _ (List.mem_of_getElem? (i := 2) rfl))
  have q3 := hts (.code Lib.Math.max.name Lib.Math.max.code 2 (some .int)) (List.mem_cons_of_mem _ (List.mem_of_getElem? (i := 3) rfl))
  have q4 := hts (.methodLink RX1 15 Lib.Math.min.name) (List.mem_cons_of_mem _ (List.mem_of_getElem? (i := 4) rfl))
  have q5 := hts (.static Lib.Math.min.name) (List.mem_cons_of_mem _ (List.mem_of_getElem? (i := 5) rfl))
  have q6 := hts (.code Lib.Math.min.name Lib.Math.min.code 2 (some .int)) (List.mem_cons_of_mem _ (List.mem_of_getElem? (i := 6) rfl))
  have hf := hw
  refine lv_iload_n hx hb dX1_lacking_0 rfl (lv_at hl 0 rfl) ?_
  by_cases hc2 : x0 = (0 : Int32)
  · have hf := hf.1 hc2
    refine lv_tableIn (off := 31) (tgt := 32) hx hb dX1_lacking_1 (by rw [hc2]; decide) (by rw [hc2]; decide) (by rw [hc2]; rfl) (by decide) ?_
    refine lv_iconst (v := (0 : Int32)) hx hb dX1_lacking_32 (by decide) ?_
    refine lv_iload_n hx hb dX1_lacking_33 rfl (lv_at hl 1 rfl) ?_
    refine lv_ineg hx hb dX1_lacking_34 ?_
    refine va_mmax (rest := []) hx hb (hml.trans hl.1.symm) hown q0 q1 q2 q3 (Nat.le_of_ble_eq_true rfl) (Nat.le_of_ble_eq_true rfl) (Nat.le_refl _) (Nat.le_refl _) dX1_lacking_35 ?_
    exact ret _ _ _ _ (if (0 : Int32) < (-x1) then (-x1) else (0 : Int32)) () hf hP hD hS dX1_lacking_38
  · have hf := hf.2 hc2
    by_cases hc3 : x0 = (1 : Int32)
    · have hf := hf.1 hc3
      refine lv_tableIn (off := 38) (tgt := 39) hx hb dX1_lacking_1 (by rw [hc3]; decide) (by rw [hc3]; decide) (by rw [hc3]; rfl) (by decide) ?_
      refine lv_iconst (v := (0 : Int32)) hx hb dX1_lacking_39 (by decide) ?_
      refine lv_iload_n hx hb dX1_lacking_40 rfl (lv_at hl 1 rfl) ?_
      refine lv_ineg hx hb dX1_lacking_41 ?_
      refine va_mmin (rest := []) hx hb (hml.trans hl.1.symm) hown q4 q5 q2 q6 (Nat.le_of_ble_eq_true rfl) (Nat.le_of_ble_eq_true rfl) (Nat.le_refl _) (Nat.le_refl _) dX1_lacking_42 ?_
      exact ret _ _ _ _ (if (-x1) < (0 : Int32) then (-x1) else (0 : Int32)) () hf hP hD hS dX1_lacking_45
    · have hf := hf.2 hc3
      by_cases hc4 : x0 = (2 : Int32)
      · have hf := hf.1 hc4
        refine lv_tableIn (off := 45) (tgt := 46) hx hb dX1_lacking_1 (by rw [hc4]; decide) (by rw [hc4]; decide) (by rw [hc4]; rfl) (by decide) ?_
        refine lv_iload_n hx hb dX1_lacking_46 rfl (lv_at hl 1 rfl) ?_
        refine lv_ineg hx hb dX1_lacking_47 ?_
        exact ret _ _ _ _ (-x1) () hf hP hD hS dX1_lacking_48
      · have hf := hf.2 hc4
        by_cases hc5 : x0 = (3 : Int32)
        · have hf := hf.1 hc5
          refine lv_tableIn (off := 48) (tgt := 49) hx hb dX1_lacking_1 (by rw [hc5]; decide) (by rw [hc5]; decide) (by rw [hc5]; rfl) (by decide) ?_
          refine lv_iload_n hx hb dX1_lacking_49 rfl (lv_at hl 1 rfl) ?_
          refine lv_if_ne (tgt := 57) hx hb dX1_lacking_50 (by decide) (fun hc1 => ?_) (fun hc1 => ?_)
          · have hf := hf.2 hc1
            refine lv_iconst (v := (0 : Int32)) hx hb dX1_lacking_57 (by decide) ?_
            exact ret _ _ _ _ (0 : Int32) () hf hP hD hS dX1_lacking_58
          · have hf := hf.1 hc1
            refine lv_iconst (v := (1 : Int32)) hx hb dX1_lacking_53 (by decide) ?_
            refine lv_goto (tgt := 58) hx hb dX1_lacking_54 (by decide) ?_
            exact ret _ _ _ _ (1 : Int32) () hf hP hD hS dX1_lacking_58
        · have hf := hf.2 hc5
          refine lv_tableOut (tgt := 59) hx hb dX1_lacking_1 (gz_out4 hc2 hc3 hc4 hc5) (by decide) ?_
          refine lv_iload_n hx hb dX1_lacking_59 rfl (lv_at hl 1 rfl) ?_
          refine lv_iconst (v := (1 : Int32)) hx hb dX1_lacking_60 (by decide) ?_
          refine lv_iand hx hb dX1_lacking_61 ?_
          exact ret _ _ _ _ (x1 &&& (1 : Int32)) () hf hP hD hS dX1_lacking_62
abbrev rm_X1_ofSign : Room := { frames := 0, cells := 0, slots := 0, locals := 0 }
set_option maxHeartbeats 4000000 in
set_option maxRecDepth 100000 in
theorem c_X1_ofSign (l : Launch) (dC : Nat → ClassId) (dI : Nat → Nat → Nat) (cI cJ cC cZ : ClassId) (sz : Nat) (x0 : Int32) (Q : Int32 → Prop) (hw : p_X1_ofSign x0 Q) : Met l yX1_ofSign wsX1_ofSign rm_X1_ofSign (va_Pc [.int x0] (gz_B (dC, dI) (gz_T cI cJ cC cZ) [] sz [])) (va_Qi (fun (r : Int32) (u : Unit) => Q r) (fun u t => gz_E (dC, dI) (gz_T cI cJ cC cZ) (va_A [] sz) [] t) (va_A [] sz)) 0 0 (va_A [] sz) := by
  refine gz_mi (cc := cX1_ofSign) (maxL := 1) (plainFor_of_name (by decide +kernel)) rfl (Nat.le_of_ble_eq_true rfl) ?_
  intro p e s m below meth c A QQ ls hx hb hml hown0 hts hK hN hA hP hD hS hl ret
  have hown : s.vm.findClass RX1 = some m.cls := hown0
  have hl : lv_has ls 1 [(0, .int x0)] := hl
  have hf := hw
  refine lv_iload_n hx hb dX1_ofSign_0 rfl (lv_at hl 0 rfl) ?_
  by_cases hc1 : x0 = (35 : Int32)
  · have hf := hf.1 hc1
    refine lv_lookup (off := 57) (tgt := 58) hx hb dX1_ofSign_1 (by decide) (by rw [hc1]; decide) (by decide) ?_
    refine lv_iconst (v := (3 : Int32)) hx hb dX1_ofSign_58 (by decide) ?_
    exact ret _ _ _ _ (3 : Int32) () hf hP hD hS dX1_ofSign_59
  · have hf := hf.2 hc1
    by_cases hc2 : x0 = (37 : Int32)
    · have hf := hf.1 hc2
      refine lv_lookup (off := 59) (tgt := 60) hx hb dX1_ofSign_1 (by decide) (by rw [hc2]; decide) (by decide) ?_
      refine lv_iconst (v := (4 : Int32)) hx hb dX1_ofSign_60 (by decide) ?_
      exact ret _ _ _ _ (4 : Int32) () hf hP hD hS dX1_ofSign_61
    · have hf := hf.2 hc2
      by_cases hc3 : x0 = (60 : Int32)
      · have hf := hf.1 hc3
        refine lv_lookup (off := 53) (tgt := 54) hx hb dX1_ofSign_1 (by decide) (by rw [hc3]; decide) (by decide) ?_
        refine lv_iconst (v := (1 : Int32)) hx hb dX1_ofSign_54 (by decide) ?_
        exact ret _ _ _ _ (1 : Int32) () hf hP hD hS dX1_ofSign_55
      · have hf := hf.2 hc3
        by_cases hc4 : x0 = (61 : Int32)
        · have hf := hf.1 hc4
          refine lv_lookup (off := 55) (tgt := 56) hx hb dX1_ofSign_1 (by decide) (by rw [hc4]; decide) (by decide) ?_
          refine lv_iconst (v := (2 : Int32)) hx hb dX1_ofSign_56 (by decide) ?_
          exact ret _ _ _ _ (2 : Int32) () hf hP hD hS dX1_ofSign_57
        · have hf := hf.2 hc4
          by_cases hc5 : x0 = (62 : Int32)
          · have hf := hf.1 hc5
            refine lv_lookup (off := 51) (tgt := 52) hx hb dX1_ofSign_1 (by decide) (by rw [hc5]; decide) (by decide) ?_
            refine lv_iconst (v := (0 : Int32)) hx hb dX1_ofSign_52 (by decide) ?_
            exact ret _ _ _ _ (0 : Int32) () hf hP hD hS dX1_ofSign_53
          · have hf := hf.2 hc5
            refine lv_lookup (off := 61) (tgt := 62) hx hb dX1_ofSign_1 (by decide) (gz_lk5 hc1 hc2 hc3 hc4 hc5) (by decide) ?_
            refine lv_iconst (v := (-1 : Int32)) hx hb dX1_ofSign_62 (by decide) ?_
            exact ret _ _ _ _ (-1 : Int32) () hf hP hD hS dX1_ofSign_63
abbrev rm_X2_lowestBit : Room := { frames := 0, cells := 0, slots := 0, locals := 0 }
set_option maxHeartbeats 4000000 in
set_option maxRecDepth 100000 in
theorem c_X2_lowestBit (l : Launch) (dC : Nat → ClassId) (dI : Nat → Nat → Nat) (cI cJ cC cZ : ClassId) (sz : Nat) (x0 : Int32) (Q : Int32 → Prop) (hw : p_X2_lowestBit x0 Q) : Met l yX2_lowestBit wsX2_lowestBit rm_X2_lowestBit (va_Pc [.int x0] (gz_B (dC, dI) (gz_T cI cJ cC cZ) [] sz [])) (va_Qi (fun (r : Int32) (u : Unit) => Q r) (fun u t => gz_E (dC, dI) (gz_T cI cJ cC cZ) (va_A [] sz) [] t) (va_A [] sz)) 0 0 (va_A [] sz) := by
  refine gz_mi (cc := cX2_lowestBit) (maxL := 2) (plainFor_of_name (by decide +kernel)) rfl (Nat.le_of_ble_eq_true rfl) ?_
  intro p e s m below meth c A QQ ls hx hb hml hown0 hts hK hN hA hP hD hS hl ret
  have hown : s.vm.findClass RX2 = some m.cls := hown0
  have hl : lv_has ls 2 [(0, .int x0)] := hl
  have L2 : ∀ (n : Nat) (x1 : Int32) (H : Heap) (locs : List Loc) (ls : Array Slot), gi1 (p_X2_lowestBit_2 x0 Q) n x1 → va_P (dC, dI) vwCl [] H → va_D A [] → va_S A s.heap H locs → lv_has ls 2 [(0, .int x0), (1, .int x1)] → W p l e rm_X2_lowestBit s m [.int x0].toArray below meth c H locs 0 0 QQ (F0 m 2 ls []) := by
    intro  n
    induction n with
    | zero => intro x1 H locs ls hf; exact False.elim hf
    | succ n ih2 =>
      generalize hK2 : gi1 (p_X2_lowestBit_2 x0 Q) n = K2 at ih2
      intro x1 H locs ls hf hP hD hS hl
      have hf : p_X2_lowestBit_2 x0 Q (gi1 (p_X2_lowestBit_2 x0 Q) n) x1 := hf
      rw [hK2] at hf
      refine lv_iload_n hx hb dX2_lowestBit_2 rfl (lv_at hl 1 rfl) ?_
      refine lv_bipush (v := (31 : Int32)) hx hb dX2_lowestBit_3 (by decide) ?_
      refine lv_icmp_ge (tgt := 22) hx hb dX2_lowestBit_5 (by decide) (fun hc2 => ?_) (fun hc2 => ?_)
      · have hf := hf.1 hc2
        refine lv_iload_n hx hb dX2_lowestBit_22 rfl (lv_at hl 1 rfl) ?_
        exact ret _ _ _ _ x1 () hf hP hD hS dX2_lowestBit_23
      · have hf := hf.2 hc2
        refine lv_iload_n hx hb dX2_lowestBit_8 rfl (lv_at hl 0 rfl) ?_
        refine lv_iload_n hx hb dX2_lowestBit_9 rfl (lv_at hl 1 rfl) ?_
        refine lv_ishr hx hb dX2_lowestBit_10 ?_
        refine lv_iconst (v := (1 : Int32)) hx hb dX2_lowestBit_11 (by decide) ?_
        refine lv_iand hx hb dX2_lowestBit_12 ?_
        refine lv_if_ne (tgt := 22) hx hb dX2_lowestBit_13 (by decide) (fun hc1 => ?_) (fun hc1 => ?_)
        · have hf := hf.2 hc1
          refine lv_iload_n hx hb dX2_lowestBit_22 rfl (lv_at hl 1 rfl) ?_
          exact ret _ _ _ _ x1 () hf hP hD hS dX2_lowestBit_23
        · have hf := hf.1 hc1
          refine lv_iinc (v := (x1 + (1 : Int32))) (lv' := [(1, .int (x1 + (1 : Int32))), (0, .int x0)]) hx hb dX2_lowestBit_16 hl (k := 1) rfl rfl (by decide) rfl (fun ls hl => ?_)
          refine lv_goto (tgt := 2) hx hb dX2_lowestBit_19 (by decide) ?_
          exact ih2 (x1 + (1 : Int32)) _ _ _ hf hP hD hS (lv_sub hl [1, 0] rfl)
  have hf := hw
  refine lv_iconst (v := (0 : Int32)) hx hb dX2_lowestBit_0 (by decide) ?_
  refine lv_istore_n (lv' := [(1, .int (0 : Int32)), (0, .int x0)]) hx hb dX2_lowestBit_1 rfl hl (by decide) rfl (fun ls hl => ?_)
  obtain ⟨n, hf⟩ := hf
  exact L2  n (0 : Int32) _ _ _ hf hP hD hS (lv_sub hl [1, 0] rfl)
abbrev rm_X2_highestBit : Room := { frames := 0, cells := 0, slots := 0, locals := 0 }
set_option maxHeartbeats 4000000 in
set_option maxRecDepth 100000 in
theorem c_X2_highestBit (l : Launch) (dC : Nat → ClassId) (dI : Nat → Nat → Nat) (cI cJ cC cZ : ClassId) (sz : Nat) (x0 : Int32) (Q : Int32 → Prop) (hw : p_X2_highestBit x0 Q) : Met l yX2_highestBit wsX2_highestBit rm_X2_highestBit (va_Pc [.int x0] (gz_B (dC, dI) (gz_T cI cJ cC cZ) [] sz [])) (va_Qi (fun (r : Int32) (u : Unit) => Q r) (fun u t => gz_E (dC, dI) (gz_T cI cJ cC cZ) (va_A [] sz) [] t) (va_A [] sz)) 0 0 (va_A [] sz) := by
  refine gz_mi (cc := cX2_highestBit) (maxL := 2) (plainFor_of_name (by decide +kernel)) rfl (Nat.le_of_ble_eq_true rfl) ?_
  intro p e s m below meth c A QQ ls hx hb hml hown0 hts hK hN hA hP hD hS hl ret
  have hown : s.vm.findClass RX2 = some m.cls := hown0
  have hl : lv_has ls 2 [(0, .int x0)] := hl
  have L3 : ∀ (n : Nat) (x1 : Int32) (H : Heap) (locs : List Loc) (ls : Array Slot), gi1 (p_X2_highestBit_3 x0 Q) n x1 → va_P (dC, dI) vwCl [] H → va_D A [] → va_S A s.heap H locs → lv_has ls 2 [(0, .int x0), (1, .int x1)] → W p l e rm_X2_highestBit s m [.int x0].toArray below meth c H locs 0 0 QQ (F0 m 3 ls []) := by
    intro  n
    induction n with
    | zero => intro x1 H locs ls hf; exact False.elim hf
    | succ n ih3 =>
      generalize hK3 : gi1 (p_X2_highestBit_3 x0 Q) n = K3 at ih3
      intro x1 H locs ls hf hP hD hS hl
      have hf : p_X2_highestBit_3 x0 Q (gi1 (p_X2_highestBit_3 x0 Q) n) x1 := hf
      rw [hK3] at hf
      refine lv_iload_n hx hb dX2_highestBit_3 rfl (lv_at hl 1 rfl) ?_
      refine lv_if_le (tgt := 21) hx hb dX2_highestBit_4 (by decide) (fun hc2 => ?_) (fun hc2 => ?_)
      · have hf := hf.1 hc2
        refine lv_iload_n hx hb dX2_highestBit_21 rfl (lv_at hl 1 rfl) ?_
        exact ret _ _ _ _ x1 () hf hP hD hS dX2_highestBit_22
      · have hf := hf.2 hc2
        refine lv_iload_n hx hb dX2_highestBit_7 rfl (lv_at hl 0 rfl) ?_
        refine lv_iload_n hx hb dX2_highestBit_8 rfl (lv_at hl 1 rfl) ?_
        refine lv_ishr hx hb dX2_highestBit_9 ?_
        refine lv_iconst (v := (1 : Int32)) hx hb dX2_highestBit_10 (by decide) ?_
        refine lv_iand hx hb dX2_highestBit_11 ?_
        refine lv_if_ne (tgt := 21) hx hb dX2_highestBit_12 (by decide) (fun hc1 => ?_) (fun hc1 => ?_)
        · have hf := hf.2 hc1
          refine lv_iload_n hx hb dX2_highestBit_21 rfl (lv_at hl 1 rfl) ?_
          exact ret _ _ _ _ x1 () hf hP hD hS dX2_highestBit_22
        · have hf := hf.1 hc1
          refine lv_iinc (v := (x1 + (-1 : Int32))) (lv' := [(1, .int (x1 + (-1 : Int32))), (0, .int x0)]) hx hb dX2_highestBit_15 hl (k := 1) rfl rfl (by decide) rfl (fun ls hl => ?_)
          refine lv_goto (tgt := 3) hx hb dX2_highestBit_18 (by decide) ?_
          exact ih3 (x1 + (-1 : Int32)) _ _ _ hf hP hD hS (lv_sub hl [1, 0] rfl)
  have hf := hw
  refine lv_bipush (v := (31 : Int32)) hx hb dX2_highestBit_0 (by decide) ?_
  refine lv_istore_n (lv' := [(1, .int (31 : Int32)), (0, .int x0)]) hx hb dX2_highestBit_2 rfl hl (by decide) rfl (fun ls hl => ?_)
  obtain ⟨n, hf⟩ := hf
  exact L3  n (31 : Int32) _ _ _ hf hP hD hS (lv_sub hl [1, 0] rfl)
abbrev rm_X2_greatestDivisor : Room := { frames := 1, cells := 0, slots := 0, locals := 24 }
set_option maxHeartbeats 4000000 in
set_option maxRecDepth 100000 in
theorem c_X2_greatestDivisor (l : Launch) (dC : Nat → ClassId) (dI : Nat → Nat → Nat) (cI cJ cC cZ : ClassId) (sz : Nat) (x0 : Int32) (x1 : Int32) (Q : Int32 → Prop) (hw : p_X2_greatestDivisor x0 x1 Q) : Met l yX2_greatestDivisor wsX2_greatestDivisor rm_X2_greatestDivisor (va_Pc [.int x0, .int x1] (gz_B (dC, dI) (gz_T cI cJ cC cZ) [] sz [])) (va_Qi (fun (r : Int32) (u : Unit) => Q r) (fun u t => gz_E (dC, dI) (gz_T cI cJ cC cZ) (va_A [] sz) [] t) (va_A [] sz)) 0 0 (va_A [] sz) := by
  refine gz_mi (cc := cX2_greatestDivisor) (maxL := 6) (plainFor_of_name (by decide +kernel)) rfl (Nat.le_of_ble_eq_true rfl) ?_
  intro p e s m below meth c A QQ ls hx hb hml hown0 hts hK hN hA hP hD hS hl ret
  have hown : s.vm.findClass RX2 = some m.cls := hown0
  have hl : lv_has ls 6 [(0, .int x0), (1, .int x1)] := hl
  have q0 := hts (.methodLink RX2 7 Lib.Math.abs.name) (List.mem_cons_of_mem _ (List.mem_of_getElem? (i := 0) rfl))
  have q1 := hts (.static Lib.Math.abs.name) (List.mem_cons_of_mem _ (List.mem_of_getElem? (i := 1) rfl))
  have q2 := hts (.initialized "java/lang/Math") (List.mem_cons_of_mem _ (List.mem_of_getElem? (i := 2) rfl))
  have q3 := hts (.code Lib.Math.abs.name Lib.Math.abs.code 1 (some .int)) (List.mem_cons_of_mem _ (List.mem_of_getElem? (i := 3) rfl))
  have L13 : ∀ (n : Nat) (x2 : Int32) (x3 : Int32) (x4 : Int32) (H : Heap) (locs : List Loc) (ls : Array Slot), gi3 (p_X2_greatestDivisor_13 Q) n x2 x3 x4 → va_P (dC, dI) vwCl [] H → va_D A [] → va_S A s.heap H locs → lv_has ls 6 [(2, .int x2), (3, .int x3), (4, .int x4)] → W p l e rm_X2_greatestDivisor s m [.int x0, .int x1].toArray below meth c H locs 0 0 QQ (F0 m 13 ls []) := by
    intro  n
    induction n with
    | zero => intro x2 x3 x4 H locs ls hf; exact False.elim hf
    | succ n ih13 =>
      generalize hK13 : gi3 (p_X2_greatestDivisor_13 Q) n = K13 at ih13
      intro x2 x3 x4 H locs ls hf hP hD hS hl
      have hf : p_X2_greatestDivisor_13 Q (gi3 (p_X2_greatestDivisor_13 Q) n) x2 x3 x4 := hf
      rw [hK13] at hf
      refine lv_iload hx hb dX2_greatestDivisor_13 (lv_at hl 2 rfl) ?_
      refine lv_bipush (v := (64 : Int32)) hx hb dX2_greatestDivisor_15 (by decide) ?_
      refine lv_icmp_ge (tgt := 40) hx hb dX2_greatestDivisor_17 (by decide) (fun hc3 => ?_) (fun hc3 => ?_)
      · have hf := hf.1 hc3
        refine lv_iload_n hx hb dX2_greatestDivisor_40 rfl (lv_at hl 0 rfl) ?_
        exact ret _ _ _ _ x2 () hf hP hD hS dX2_greatestDivisor_41
      · have hf := hf.2 hc3
        refine lv_iload_n hx hb dX2_greatestDivisor_20 rfl (lv_at hl 1 rfl) ?_
        refine lv_if_eq (tgt := 40) hx hb dX2_greatestDivisor_21 (by decide) (fun hc2 => ?_) (fun hc2 => ?_)
        · have hf := hf.1 hc2
          refine lv_iload_n hx hb dX2_greatestDivisor_40 rfl (lv_at hl 0 rfl) ?_
          exact ret _ _ _ _ x2 () hf hP hD hS dX2_greatestDivisor_41
        · have hf := hf.2 hc2
          refine lv_iload_n hx hb dX2_greatestDivisor_24 rfl (lv_at hl 0 rfl) ?_
          refine lv_iload_n hx hb dX2_greatestDivisor_25 rfl (lv_at hl 1 rfl) ?_
          obtain ⟨hb1, hf⟩ := hf
          refine lv_irem hx hb dX2_greatestDivisor_26 hb1 ?_
          refine lv_istore (lv' := [(5, .int (x2 - x2 / x3 * x3)), (2, .int x2), (3, .int x3), (4, .int x4)]) hx hb dX2_greatestDivisor_27 hl (by decide) rfl (fun ls hl => ?_)
          refine lv_iload_n hx hb dX2_greatestDivisor_29 rfl (lv_at hl 2 rfl) ?_
          refine lv_istore_n (lv' := [(2, .int x3), (5, .int (x2 - x2 / x3 * x3)), (3, .int x3), (4, .int x4)]) hx hb dX2_greatestDivisor_30 rfl hl (by decide) rfl (fun ls hl => ?_)
          refine lv_iload hx hb dX2_greatestDivisor_31 (lv_at hl 1 rfl) ?_
          refine lv_istore_n (lv' := [(3, .int (x2 - x2 / x3 * x3)), (2, .int x3), (5, .int (x2 - x2 / x3 * x3)), (4, .int x4)]) hx hb dX2_greatestDivisor_33 rfl hl (by decide) rfl (fun ls hl => ?_)
          refine lv_iinc (v := (x4 + (1 : Int32))) (lv' := [(4, .int (x4 + (1 : Int32))), (3, .int (x2 - x2 / x3 * x3)), (2, .int x3), (5, .int (x2 - x2 / x3 * x3))]) hx hb dX2_greatestDivisor_34 hl (k := 3) rfl rfl (by decide) rfl (fun ls hl => ?_)
          refine lv_goto (tgt := 13) hx hb dX2_greatestDivisor_37 (by decide) ?_
          exact ih13 x3 (x2 - x2 / x3 * x3) (x4 + (1 : Int32)) _ _ _ hf hP hD hS (lv_sub hl [2, 1, 0] rfl)
  have hf := hw
  refine lv_iload_n hx hb dX2_greatestDivisor_0 rfl (lv_at hl 0 rfl) ?_
  refine va_mabs (rest := []) hx hb (hml.trans hl.1.symm) hown q0 q1 q2 q3 (Nat.le_of_ble_eq_true rfl) (Nat.le_of_ble_eq_true rfl) (Nat.le_refl _) (Nat.le_refl _) dX2_greatestDivisor_1 ?_
  refine lv_istore_n (lv' := [(2, .int (if 0 ≤ x0 then x0 else 0 - x0)), (0, .int x0), (1, .int x1)]) hx hb dX2_greatestDivisor_4 rfl hl (by decide) rfl (fun ls hl => ?_)
  refine lv_iload_n hx hb dX2_greatestDivisor_5 rfl (lv_at hl 2 rfl) ?_
  refine va_mabs (rest := []) hx hb (hml.trans hl.1.symm) hown q0 q1 q2 q3 (Nat.le_of_ble_eq_true rfl) (Nat.le_of_ble_eq_true rfl) (Nat.le_refl _) (Nat.le_refl _) dX2_greatestDivisor_6 ?_
  refine lv_istore_n (lv' := [(3, .int (if 0 ≤ x1 then x1 else 0 - x1)), (2, .int (if 0 ≤ x0 then x0 else 0 - x0)), (0, .int x0), (1, .int x1)]) hx hb dX2_greatestDivisor_9 rfl hl (by decide) rfl (fun ls hl => ?_)
  refine lv_iconst (v := (0 : Int32)) hx hb dX2_greatestDivisor_10 (by decide) ?_
  refine lv_istore (lv' := [(4, .int (0 : Int32)), (3, .int (if 0 ≤ x1 then x1 else 0 - x1)), (2, .int (if 0 ≤ x0 then x0 else 0 - x0)), (0, .int x0), (1, .int x1)]) hx hb dX2_greatestDivisor_11 hl (by decide) rfl (fun ls hl => ?_)
  obtain ⟨n, hf⟩ := hf
  exact L13  n (if 0 ≤ x0 then x0 else 0 - x0) (if 0 ≤ x1 then x1 else 0 - x1) (0 : Int32) _ _ _ hf hP hD hS (lv_sub hl [2, 1, 0] rfl)
abbrev rm_X2_power : Room := { frames := 0, cells := 0, slots := 0, locals := 0 }
set_option maxHeartbeats 4000000 in
set_option maxRecDepth 100000 in
theorem c_X2_power (l : Launch) (dC : Nat → ClassId) (dI : Nat → Nat → Nat) (cI cJ cC cZ : ClassId) (sz : Nat) (x0 : Int32) (x1 : Int32) (Q : Int32 → Prop) (hw : p_X2_power x0 x1 Q) : Met l yX2_power wsX2_power rm_X2_power (va_Pc [.int x0, .int x1] (gz_B (dC, dI) (gz_T cI cJ cC cZ) [] sz [])) (va_Qi (fun (r : Int32) (u : Unit) => Q r) (fun u t => gz_E (dC, dI) (gz_T cI cJ cC cZ) (va_A [] sz) [] t) (va_A [] sz)) 0 0 (va_A [] sz) := by
  refine gz_mi (cc := cX2_power) (maxL := 4) (plainFor_of_name (by decide +kernel)) rfl (Nat.le_of_ble_eq_true rfl) ?_
  intro p e s m below meth c A QQ ls hx hb hml hown0 hts hK hN hA hP hD hS hl ret
  have hown : s.vm.findClass RX2 = some m.cls := hown0
  have hl : lv_has ls 4 [(0, .int x0), (1, .int x1)] := hl
  have L4 : ∀ (n : Nat) (x2 : Int32) (x3 : Int32) (H : Heap) (locs : List Loc) (ls : Array Slot), gi2 (p_X2_power_4 x0 x1 Q) n x2 x3 → va_P (dC, dI) vwCl [] H → va_D A [] → va_S A s.heap H locs → lv_has ls 4 [(0, .int x0), (1, .int x1), (2, .int x2), (3, .int x3)] → W p l e rm_X2_power s m [.int x0, .int x1].toArray below meth c H locs 0 0 QQ (F0 m 4 ls []) := by
    intro  n
    induction n with
    | zero => intro x2 x3 H locs ls hf; exact False.elim hf
    | succ n ih4 =>
      generalize hK4 : gi2 (p_X2_power_4 x0 x1 Q) n = K4 at ih4
      intro x2 x3 H locs ls hf hP hD hS hl
      have hf : p_X2_power_4 x0 x1 Q (gi2 (p_X2_power_4 x0 x1 Q) n) x2 x3 := hf
      rw [hK4] at hf
      refine lv_iload_n hx hb dX2_power_4 rfl (lv_at hl 3 rfl) ?_
      refine lv_iload_n hx hb dX2_power_5 rfl (lv_at hl 1 rfl) ?_
      refine lv_icmp_ge (tgt := 19) hx hb dX2_power_6 (by decide) (fun hc1 => ?_) (fun hc1 => ?_)
      · have hf := hf.1 hc1
        refine lv_iload_n hx hb dX2_power_19 rfl (lv_at hl 2 rfl) ?_
        exact ret _ _ _ _ x2 () hf hP hD hS dX2_power_20
      · have hf := hf.2 hc1
        refine lv_iload_n hx hb dX2_power_9 rfl (lv_at hl 2 rfl) ?_
        refine lv_iload_n hx hb dX2_power_10 rfl (lv_at hl 0 rfl) ?_
        refine lv_imul hx hb dX2_power_11 ?_
        refine lv_istore_n (lv' := [(2, .int (x2 * x0)), (0, .int x0), (1, .int x1), (3, .int x3)]) hx hb dX2_power_12 rfl hl (by decide) rfl (fun ls hl => ?_)
        refine lv_iinc (v := (x3 + (1 : Int32))) (lv' := [(3, .int (x3 + (1 : Int32))), (2, .int (x2 * x0)), (0, .int x0), (1, .int x1)]) hx hb dX2_power_13 hl (k := 3) rfl rfl (by decide) rfl (fun ls hl => ?_)
        refine lv_goto (tgt := 4) hx hb dX2_power_16 (by decide) ?_
        exact ih4 (x2 * x0) (x3 + (1 : Int32)) _ _ _ hf hP hD hS (lv_sub hl [2, 3, 1, 0] rfl)
  have hf := hw
  refine lv_iconst (v := (1 : Int32)) hx hb dX2_power_0 (by decide) ?_
  refine lv_istore_n (lv' := [(2, .int (1 : Int32)), (0, .int x0), (1, .int x1)]) hx hb dX2_power_1 rfl hl (by decide) rfl (fun ls hl => ?_)
  refine lv_iconst (v := (0 : Int32)) hx hb dX2_power_2 (by decide) ?_
  refine lv_istore_n (lv' := [(3, .int (0 : Int32)), (2, .int (1 : Int32)), (0, .int x0), (1, .int x1)]) hx hb dX2_power_3 rfl hl (by decide) rfl (fun ls hl => ?_)
  obtain ⟨n, hf⟩ := hf
  exact L4  n (1 : Int32) (0 : Int32) _ _ _ hf hP hD hS (lv_sub hl [2, 3, 1, 0] rfl)
abbrev rm_X3_valueOf : Room := { frames := 0, cells := 0, slots := 0, locals := 0 }
set_option maxHeartbeats 4000000 in
set_option maxRecDepth 100000 in
theorem c_X3_valueOf (l : Launch) (dC : Nat → ClassId) (dI : Nat → Nat → Nat) (cI cJ cC cZ : ClassId) (sz : Nat) (x0 : Int32) (x1 : Int32) (Q : Int32 → Prop) (hw : p_X3_valueOf x0 x1 Q) : Met l yX3_valueOf wsX3_valueOf rm_X3_valueOf (va_Pc [.int x0, .int x1] (gz_B (dC, dI) (gz_T cI cJ cC cZ) [] sz [])) (va_Qi (fun (r : Int32) (u : Unit) => Q r) (fun u t => gz_E (dC, dI) (gz_T cI cJ cC cZ) (va_A [] sz) [] t) (va_A [] sz)) 0 0 (va_A [] sz) := by
  refine gz_mi (cc := cX3_valueOf) (maxL := 2) (plainFor_of_name (by decide +kernel)) rfl (Nat.le_of_ble_eq_true rfl) ?_
  intro p e s m below meth c A QQ ls hx hb hml hown0 hts hK hN hA hP hD hS hl ret
  have hown : s.vm.findClass RX3 = some m.cls := hown0
  have hl : lv_has ls 2 [(0, .int x0), (1, .int x1)] := hl
  have hf := hw
  refine lv_iload_n hx hb dX3_valueOf_0 rfl (lv_at hl 0 rfl) ?_
  refine lv_bipush (v := (9 : Int32)) hx hb dX3_valueOf_1 (by decide) ?_
  refine lv_iconst (v := (3 : Int32)) hx hb dX3_valueOf_3 (by decide) ?_
  refine lv_iload_n hx hb dX3_valueOf_4 rfl (lv_at hl 1 rfl) ?_
  refine lv_imul hx hb dX3_valueOf_5 ?_
  refine lv_isub hx hb dX3_valueOf_6 ?_
  refine lv_ishr hx hb dX3_valueOf_7 ?_
  refine lv_bipush (v := (7 : Int32)) hx hb dX3_valueOf_8 (by decide) ?_
  refine lv_iand hx hb dX3_valueOf_10 ?_
  exact ret _ _ _ _ ((x0 >>> (((9 : Int32) - ((3 : Int32) * x1)) &&& 31)) &&& (7 : Int32)) () hf hP hD hS dX3_valueOf_11
abbrev rm_X3_withValue : Room := { frames := 0, cells := 0, slots := 0, locals := 0 }
set_option maxHeartbeats 4000000 in
set_option maxRecDepth 100000 in
theorem c_X3_withValue (l : Launch) (dC : Nat → ClassId) (dI : Nat → Nat → Nat) (cI cJ cC cZ : ClassId) (sz : Nat) (x0 : Int32) (x1 : Int32) (x2 : Int32) (Q : Int32 → Prop) (hw : p_X3_withValue x0 x1 x2 Q) : Met l yX3_withValue wsX3_withValue rm_X3_withValue (va_Pc [.int x0, .int x1, .int x2] (gz_B (dC, dI) (gz_T cI cJ cC cZ) [] sz [])) (va_Qi (fun (r : Int32) (u : Unit) => Q r) (fun u t => gz_E (dC, dI) (gz_T cI cJ cC cZ) (va_A [] sz) [] t) (va_A [] sz)) 0 0 (va_A [] sz) := by
  refine gz_mi (cc := cX3_withValue) (maxL := 3) (plainFor_of_name (by decide +kernel)) rfl (Nat.le_of_ble_eq_true rfl) ?_
  intro p e s m below meth c A QQ ls hx hb hml hown0 hts hK hN hA hP hD hS hl ret
  have hown : s.vm.findClass RX3 = some m.cls := hown0
  have hl : lv_has ls 3 [(0, .int x0), (1, .int x1), (2, .int x2)] := hl
  have hf := hw
  refine lv_iload_n hx hb dX3_withValue_0 rfl (lv_at hl 0 rfl) ?_
  refine lv_iload_n hx hb dX3_withValue_1 rfl (lv_at hl 2 rfl) ?_
  refine lv_bipush (v := (9 : Int32)) hx hb dX3_withValue_2 (by decide) ?_
  refine lv_iconst (v := (3 : Int32)) hx hb dX3_withValue_4 (by decide) ?_
  refine lv_iload_n hx hb dX3_withValue_5 rfl (lv_at hl 1 rfl) ?_
  refine lv_imul hx hb dX3_withValue_6 ?_
  refine lv_isub hx hb dX3_withValue_7 ?_
  refine lv_ishl hx hb dX3_withValue_8 ?_
  refine lv_ior hx hb dX3_withValue_9 ?_
  exact ret _ _ _ _ (x0 ||| (x2 <<< (((9 : Int32) - ((3 : Int32) * x1)) &&& 31))) () hf hP hD hS dX3_withValue_10
abbrev rm_J9_floorDiv_7cf53 : Room := { frames := 0, cells := 0, slots := 0, locals := 0 }
set_option maxHeartbeats 4000000 in
set_option maxRecDepth 100000 in
theorem c_J9_floorDiv_7cf53 (l : Launch) (dC : Nat → ClassId) (dI : Nat → Nat → Nat) (cI cJ cC cZ : ClassId) (sz : Nat) (x0 : Int32) (x1 : Int32) (Q : Int32 → Prop) (hw : p_J9_floorDiv_7cf53 x0 x1 Q) : Met l yJ9_floorDiv_7cf53 wsJ9_floorDiv_7cf53 rm_J9_floorDiv_7cf53 (va_Pc [.int x0, .int x1] (gz_B (dC, dI) (gz_T cI cJ cC cZ) [] sz [])) (va_Qi (fun (r : Int32) (u : Unit) => Q r) (fun u t => gz_E (dC, dI) (gz_T cI cJ cC cZ) (va_A [] sz) [] t) (va_A [] sz)) 0 0 (va_A [] sz) := by
  refine gz_mi (cc := cJ9_floorDiv_7cf53) (maxL := 3) (gz_plainMath rfl rfl) rfl (Nat.le_of_ble_eq_true rfl) ?_
  intro p e s m below meth c A QQ ls hx hb hml hown0 hts hK hN hA hP hD hS hl ret
  have hown : s.vm.findClass RJ9 = some m.cls := hown0
  have hl : lv_has ls 3 [(0, .int x0), (1, .int x1)] := hl
  have hf := hw
  refine lv_iload_n hx hb dJ9_floorDiv_7cf53_0 rfl (lv_at hl 0 rfl) ?_
  refine lv_iload_n hx hb dJ9_floorDiv_7cf53_1 rfl (lv_at hl 1 rfl) ?_
  obtain ⟨hb3, hf⟩ := hf
  refine lv_idiv hx hb dJ9_floorDiv_7cf53_2 hb3 ?_
  refine lv_istore_n (lv' := [(2, .int (x0 / x1)), (0, .int x0), (1, .int x1)]) hx hb dJ9_floorDiv_7cf53_3 rfl hl (by decide) rfl (fun ls hl => ?_)
  refine lv_iload_n hx hb dJ9_floorDiv_7cf53_4 rfl (lv_at hl 1 rfl) ?_
  refine lv_iload_n hx hb dJ9_floorDiv_7cf53_5 rfl (lv_at hl 2 rfl) ?_
  refine lv_ixor hx hb dJ9_floorDiv_7cf53_6 ?_
  refine lv_if_ge (tgt := 21) hx hb dJ9_floorDiv_7cf53_7 (by decide) (fun hc2 => ?_) (fun hc2 => ?_)
  · have hf := hf.1 hc2
    refine lv_iload_n hx hb dJ9_floorDiv_7cf53_21 rfl (lv_at hl 0 rfl) ?_
    exact ret _ _ _ _ (x0 / x1) () hf hP hD hS dJ9_floorDiv_7cf53_22
  · have hf := hf.2 hc2
    refine lv_iload_n hx hb dJ9_floorDiv_7cf53_10 rfl (lv_at hl 0 rfl) ?_
    refine lv_iload_n hx hb dJ9_floorDiv_7cf53_11 rfl (lv_at hl 2 rfl) ?_
    refine lv_imul hx hb dJ9_floorDiv_7cf53_12 ?_
    refine lv_iload_n hx hb dJ9_floorDiv_7cf53_13 rfl (lv_at hl 1 rfl) ?_
    refine lv_icmp_eq (tgt := 21) hx hb dJ9_floorDiv_7cf53_14 (by decide) (fun hc1 => ?_) (fun hc1 => ?_)
    · have hf := hf.1 hc1
      refine lv_iload_n hx hb dJ9_floorDiv_7cf53_21 rfl (lv_at hl 0 rfl) ?_
      exact ret _ _ _ _ (x0 / x1) () hf hP hD hS dJ9_floorDiv_7cf53_22
    · have hf := hf.2 hc1
      refine lv_iload_n hx hb dJ9_floorDiv_7cf53_17 rfl (lv_at hl 0 rfl) ?_
      refine lv_iconst (v := (1 : Int32)) hx hb dJ9_floorDiv_7cf53_18 (by decide) ?_
      refine lv_isub hx hb dJ9_floorDiv_7cf53_19 ?_
      exact ret _ _ _ _ ((x0 / x1) - (1 : Int32)) () hf hP hD hS dJ9_floorDiv_7cf53_20
abbrev rm_J6_bitCount_0f7a4 : Room := { frames := 0, cells := 0, slots := 0, locals := 0 }
set_option maxHeartbeats 4000000 in
set_option maxRecDepth 100000 in
theorem c_J6_bitCount_0f7a4 (l : Launch) (dC : Nat → ClassId) (dI : Nat → Nat → Nat) (cI cJ cC cZ : ClassId) (sz : Nat) (x0 : Int32) (Q : Int32 → Prop) (hw : p_J6_bitCount_0f7a4 x0 Q) : Met l yJ6_bitCount_0f7a4 wsJ6_bitCount_0f7a4 rm_J6_bitCount_0f7a4 (va_Pc [.int x0] (gz_B (dC, dI) (gz_T cI cJ cC cZ) [] sz [])) (va_Qi (fun (r : Int32) (u : Unit) => Q r) (fun u t => gz_E (dC, dI) (gz_T cI cJ cC cZ) (va_A [] sz) [] t) (va_A [] sz)) 0 0 (va_A [] sz) := by
  refine gz_mi (cc := cJ6_bitCount_0f7a4) (maxL := 1) (plainFor_of_name (by decide +kernel)) rfl (Nat.le_of_ble_eq_true rfl) ?_
  intro p e s m below meth c A QQ ls hx hb hml hown0 hts hK hN hA hP hD hS hl ret
  have hown : s.vm.findClass RJ6 = some m.cls := hown0
  have hl : lv_has ls 1 [(0, .int x0)] := hl
  have q0 := hts (.constant RJ6 265 (1431655765)) (List.mem_cons_of_mem _ (List.mem_of_getElem? (i := 0) rfl))
  have q1 := hts (.constant RJ6 266 (858993459)) (List.mem_cons_of_mem _ (List.mem_of_getElem? (i := 1) rfl))
  have q2 := hts (.constant RJ6 267 (252645135)) (List.mem_cons_of_mem _ (List.mem_of_getElem? (i := 2) rfl))
  have hf := hw
  refine lv_iload_n hx hb dJ6_bitCount_0f7a4_0 rfl (lv_at hl 0 rfl) ?_
  refine lv_iload_n hx hb dJ6_bitCount_0f7a4_1 rfl (lv_at hl 0 rfl) ?_
  refine lv_iconst (v := (1 : Int32)) hx hb dJ6_bitCount_0f7a4_2 (by decide) ?_
  refine lv_iushr (v := ((x0.toUInt32 >>> ((1 : Int32).toUInt32 &&& Int32.toUInt32 31)).toInt32)) hx hb dJ6_bitCount_0f7a4_3 rfl ?_
  refine lv_ldcw (v := (1431655765 : Int32)) hx hb hown q0 dJ6_bitCount_0f7a4_4 ?_
  refine lv_iand hx hb dJ6_bitCount_0f7a4_7 ?_
  refine lv_isub hx hb dJ6_bitCount_0f7a4_8 ?_
  refine lv_topi (fun z1 ez1 => ?_)
  have hf := hf z1 ez1
  refine lv_istore_n (lv' := [(0, .int z1)]) hx hb dJ6_bitCount_0f7a4_9 rfl hl (by decide) rfl (fun ls hl => ?_)
  refine lv_iload_n hx hb dJ6_bitCount_0f7a4_10 rfl (lv_at hl 0 rfl) ?_
  refine lv_ldcw (v := (858993459 : Int32)) hx hb hown q1 dJ6_bitCount_0f7a4_11 ?_
  refine lv_iand hx hb dJ6_bitCount_0f7a4_14 ?_
  refine lv_iload_n hx hb dJ6_bitCount_0f7a4_15 rfl (lv_at hl 0 rfl) ?_
  refine lv_iconst (v := (2 : Int32)) hx hb dJ6_bitCount_0f7a4_16 (by decide) ?_
  refine lv_iushr (v := ((z1.toUInt32 >>> ((2 : Int32).toUInt32 &&& Int32.toUInt32 31)).toInt32)) hx hb dJ6_bitCount_0f7a4_17 rfl ?_
  refine lv_ldcw (v := (858993459 : Int32)) hx hb hown q1 dJ6_bitCount_0f7a4_18 ?_
  refine lv_iand hx hb dJ6_bitCount_0f7a4_21 ?_
  refine lv_iadd hx hb dJ6_bitCount_0f7a4_22 ?_
  refine lv_topi (fun z2 ez2 => ?_)
  have hf := hf z2 ez2
  refine lv_istore_n (lv' := [(0, .int z2)]) hx hb dJ6_bitCount_0f7a4_23 rfl hl (by decide) rfl (fun ls hl => ?_)
  refine lv_iload_n hx hb dJ6_bitCount_0f7a4_24 rfl (lv_at hl 0 rfl) ?_
  refine lv_iload_n hx hb dJ6_bitCount_0f7a4_25 rfl (lv_at hl 0 rfl) ?_
  refine lv_iconst (v := (4 : Int32)) hx hb dJ6_bitCount_0f7a4_26 (by decide) ?_
  refine lv_iushr (v := ((z2.toUInt32 >>> ((4 : Int32).toUInt32 &&& Int32.toUInt32 31)).toInt32)) hx hb dJ6_bitCount_0f7a4_27 rfl ?_
  refine lv_iadd hx hb dJ6_bitCount_0f7a4_28 ?_
  refine lv_ldcw (v := (252645135 : Int32)) hx hb hown q2 dJ6_bitCount_0f7a4_29 ?_
  refine lv_iand hx hb dJ6_bitCount_0f7a4_32 ?_
  refine lv_topi (fun z3 ez3 => ?_)
  have hf := hf z3 ez3
  refine lv_istore_n (lv' := [(0, .int z3)]) hx hb dJ6_bitCount_0f7a4_33 rfl hl (by decide) rfl (fun ls hl => ?_)
  refine lv_iload_n hx hb dJ6_bitCount_0f7a4_34 rfl (lv_at hl 0 rfl) ?_
  refine lv_iload_n hx hb dJ6_bitCount_0f7a4_35 rfl (lv_at hl 0 rfl) ?_
  refine lv_bipush (v := (8 : Int32)) hx hb dJ6_bitCount_0f7a4_36 (by decide) ?_
  refine lv_iushr (v := ((z3.toUInt32 >>> ((8 : Int32).toUInt32 &&& Int32.toUInt32 31)).toInt32)) hx hb dJ6_bitCount_0f7a4_38 rfl ?_
  refine lv_iadd hx hb dJ6_bitCount_0f7a4_39 ?_
  refine lv_topi (fun z4 ez4 => ?_)
  have hf := hf z4 ez4
  refine lv_istore_n (lv' := [(0, .int z4)]) hx hb dJ6_bitCount_0f7a4_40 rfl hl (by decide) rfl (fun ls hl => ?_)
  refine lv_iload_n hx hb dJ6_bitCount_0f7a4_41 rfl (lv_at hl 0 rfl) ?_
  refine lv_iload_n hx hb dJ6_bitCount_0f7a4_42 rfl (lv_at hl 0 rfl) ?_
  refine lv_bipush (v := (16 : Int32)) hx hb dJ6_bitCount_0f7a4_43 (by decide) ?_
  refine lv_iushr (v := ((z4.toUInt32 >>> ((16 : Int32).toUInt32 &&& Int32.toUInt32 31)).toInt32)) hx hb dJ6_bitCount_0f7a4_45 rfl ?_
  refine lv_iadd hx hb dJ6_bitCount_0f7a4_46 ?_
  refine lv_topi (fun z5 ez5 => ?_)
  have hf := hf z5 ez5
  refine lv_istore_n (lv' := [(0, .int z5)]) hx hb dJ6_bitCount_0f7a4_47 rfl hl (by decide) rfl (fun ls hl => ?_)
  refine lv_iload_n hx hb dJ6_bitCount_0f7a4_48 rfl (lv_at hl 0 rfl) ?_
  refine lv_bipush (v := (63 : Int32)) hx hb dJ6_bitCount_0f7a4_49 (by decide) ?_
  refine lv_iand hx hb dJ6_bitCount_0f7a4_51 ?_
  exact ret _ _ _ _ (z5 &&& (63 : Int32)) () hf hP hD hS dJ6_bitCount_0f7a4_52
