abbrev rm_L_cell : Room := { frames := 0, cells := 0, slots := 0, locals := 0 }
set_option maxHeartbeats 4000000 in
set_option maxRecDepth 100000 in
theorem c_L_cell (l : Launch) (dC : Nat → ClassId) (dI : Nat → Nat → Nat) (cI cJ cC cZ : ClassId) (b : Nat) (sz : Nat) (sL : Nat) (xs : Nat → Int32) (x1 : Int32) (Q : Int32 → Prop) (hw : p_L_cell sL xs x1 Q) : Met l yL_cell wsL_cell rm_L_cell (va_Pc [.ref b, .int x1] (gz_BX b sL xs (dC, dI) (gz_T cI cJ cC cZ) [] sz [])) (va_Qi (fun (r : Int32) (u : Unit) => Q r) (fun u t => gz_E (dC, dI) (gz_T cI cJ cC cZ) (va_A [] sz) [] t) (va_A [] sz)) 0 0 (va_A [] sz) := by
  refine gz_miX (cc := cL_cell) (maxL := 2) (plainFor_of_name (by decide +kernel)) rfl (Nat.le_of_ble_eq_true rfl) ?_
  intro p e s m below meth c A QQ ls hx hb hml hown0 hts hK hN hA hP hD hS hl hX hbl hbA ret
  have hown : s.vm.findClass RL = some m.cls := hown0
  have hl : lv_has ls 2 [(0, .ref b), (1, .int x1)] := hl
  have q0 := hts (.constant RL 7 (15485957)) (List.mem_cons_of_mem _ (List.mem_of_getElem? (i := 0) rfl))
  have q1 := hts (.constant RL 8 (2147483647)) (List.mem_cons_of_mem _ (List.mem_of_getElem? (i := 1) rfl))
  have L19 : ∀ (s0 : Int32) (H : Heap) (locs : List Loc) (ls : Array Slot), p_L_cell_19 s0 Q → va_P (dC, dI) vwCl [] H → va_D A [] → va_S A s.heap H locs → lv_has ls 2 [] → W p l e rm_L_cell s m [.ref b, .int x1].toArray below meth c H locs 0 0 QQ (F0 m 19 ls [.int s0]) := by
    intro s0 H locs ls hf hP hD hS hl
    refine lv_ldc (v := (2147483647 : Int32)) hx hb hown q1 dL_cell_19 ?_
    refine lv_iand hx hb dL_cell_21 ?_
    exact ret _ _ _ _ (s0 &&& (2147483647 : Int32)) () hf hP hD hS dL_cell_22
  have hf := hw
  refine lv_iload_n hx hb dL_cell_0 rfl (lv_at hl 1 rfl) ?_
  refine lv_aload_n hx hb dL_cell_1 rfl (lv_at hl 0 rfl) ?_
  refine va_slen hx hb hX hbl hbA hS dL_cell_2 ?_
  refine lv_icmp_ge (tgt := 12) hx hb dL_cell_3 (by decide) (fun hc2 => ?_) (fun hc2 => ?_)
  · have hf := hf.1 hc2
    refine lv_ldc (v := (15485957 : Int32)) hx hb hown q0 dL_cell_12 ?_
    refine lv_iload_n hx hb dL_cell_14 rfl (lv_at hl 1 rfl) ?_
    refine lv_imul hx hb dL_cell_15 ?_
    refine lv_bipush (v := (107 : Int32)) hx hb dL_cell_16 (by decide) ?_
    refine lv_iadd hx hb dL_cell_18 ?_
    exact L19 (((15485957 : Int32) * x1) + (107 : Int32)) _ _ _ hf hP hD hS (lv_sub hl [] rfl)
  · have hf := hf.2 hc2
    refine lv_aload_n hx hb dL_cell_6 rfl (lv_at hl 0 rfl) ?_
    refine lv_iload_n hx hb dL_cell_7 rfl (lv_at hl 1 rfl) ?_
    obtain ⟨hb1, hf⟩ := hf
    refine va_sld hx hb hX hbl hbA hS hb1 dL_cell_8 ?_
    refine lv_goto (tgt := 19) hx hb dL_cell_9 (by decide) ?_
    exact L19 (xs x1.toNatClampNeg) _ _ _ hf hP hD hS (lv_sub hl [] rfl)
abbrev rm_L_sign : Room := { frames := 0, cells := 0, slots := 0, locals := 0 }
set_option maxHeartbeats 4000000 in
set_option maxRecDepth 100000 in
theorem c_L_sign (l : Launch) (dC : Nat → ClassId) (dI : Nat → Nat → Nat) (cI cJ cC cZ : ClassId) (sz : Nat) (x0 : Int32) (Q : Int32 → Prop) (hw : p_L_sign x0 Q) : Met l yL_sign wsL_sign rm_L_sign (va_Pc [.int x0] (gz_B (dC, dI) (gz_T cI cJ cC cZ) [] sz [])) (va_Qi (fun (r : Int32) (u : Unit) => Q r) (fun u t => gz_E (dC, dI) (gz_T cI cJ cC cZ) (va_A [] sz) [] t) (va_A [] sz)) 0 0 (va_A [] sz) := by
  refine gz_mi (cc := cL_sign) (maxL := 1) (plainFor_of_name (by decide +kernel)) rfl (Nat.le_of_ble_eq_true rfl) ?_
  intro p e s m below meth c A QQ ls hx hb hml hown0 hts hK hN hA hP hD hS hl ret
  have hown : s.vm.findClass RL = some m.cls := hown0
  have hl : lv_has ls 1 [(0, .int x0)] := hl
  have hf := hw
  refine lv_iload_n hx hb dL_sign_0 rfl (lv_at hl 0 rfl) ?_
  refine lv_if_ne (tgt := 9) hx hb dL_sign_1 (by decide) (fun hc4 => ?_) (fun hc4 => ?_)
  · have hf := hf.2 hc4
    refine lv_iload_n hx hb dL_sign_9 rfl (lv_at hl 0 rfl) ?_
    refine lv_iconst (v := (1 : Int32)) hx hb dL_sign_10 (by decide) ?_
    refine lv_icmp_ne (tgt := 19) hx hb dL_sign_11 (by decide) (fun hc3 => ?_) (fun hc3 => ?_)
    · have hf := hf.2 hc3
      refine lv_iload_n hx hb dL_sign_19 rfl (lv_at hl 0 rfl) ?_
      refine lv_iconst (v := (2 : Int32)) hx hb dL_sign_20 (by decide) ?_
      refine lv_icmp_ne (tgt := 29) hx hb dL_sign_21 (by decide) (fun hc2 => ?_) (fun hc2 => ?_)
      · have hf := hf.2 hc2
        refine lv_iload_n hx hb dL_sign_29 rfl (lv_at hl 0 rfl) ?_
        refine lv_iconst (v := (3 : Int32)) hx hb dL_sign_30 (by decide) ?_
        refine lv_icmp_ne (tgt := 39) hx hb dL_sign_31 (by decide) (fun hc1 => ?_) (fun hc1 => ?_)
        · have hf := hf.2 hc1
          refine lv_bipush (v := (37 : Int32)) hx hb dL_sign_39 (by decide) ?_
          exact ret _ _ _ _ (37 : Int32) () hf hP hD hS dL_sign_41
        · have hf := hf.1 hc1
          refine lv_bipush (v := (35 : Int32)) hx hb dL_sign_34 (by decide) ?_
          refine lv_goto (tgt := 41) hx hb dL_sign_36 (by decide) ?_
          exact ret _ _ _ _ (35 : Int32) () hf hP hD hS dL_sign_41
      · have hf := hf.1 hc2
        refine lv_bipush (v := (61 : Int32)) hx hb dL_sign_24 (by decide) ?_
        refine lv_goto (tgt := 41) hx hb dL_sign_26 (by decide) ?_
        exact ret _ _ _ _ (61 : Int32) () hf hP hD hS dL_sign_41
    · have hf := hf.1 hc3
      refine lv_bipush (v := (60 : Int32)) hx hb dL_sign_14 (by decide) ?_
      refine lv_goto (tgt := 41) hx hb dL_sign_16 (by decide) ?_
      exact ret _ _ _ _ (60 : Int32) () hf hP hD hS dL_sign_41
  · have hf := hf.1 hc4
    refine lv_bipush (v := (62 : Int32)) hx hb dL_sign_4 (by decide) ?_
    refine lv_goto (tgt := 41) hx hb dL_sign_6 (by decide) ?_
    exact ret _ _ _ _ (62 : Int32) () hf hP hD hS dL_sign_41
abbrev rm_L_draws : Room := { frames := 1, cells := 0, slots := 0, locals := 21 }
set_option maxHeartbeats 4000000 in
set_option maxRecDepth 100000 in
theorem c_L_draws (l : Launch) (dC : Nat → ClassId) (dI : Nat → Nat → Nat) (cI cJ cC cZ : ClassId) (b : Nat) (h_a1 : Nat) (sz : Nat) (sL : Nat) (xs : Nat → Int32) (a1 : Nat → Int32) (Q : (Nat → Int32) → Prop) (hw : p_L_draws sL xs a1 Q) : Met l yL_draws wsL_draws rm_L_draws (va_Pc [.ref b, .ref h_a1] (gz_BX b sL xs (dC, dI) (gz_T cI cJ cC cZ) [] sz [(h_a1, .inl (cI, 51, .inl a1))])) (va_Qv (fun (u : (Nat → Int32)) => Q u) (fun u t => gz_E (dC, dI) (gz_T cI cJ cC cZ) (va_A [(h_a1, .inl (cI, 51, .inl a1))] sz) [(h_a1, .inl (cI, 51, .inl u))] t) (va_A [(h_a1, .inl (cI, 51, .inl a1))] sz)) 0 0 (va_A [(h_a1, .inl (cI, 51, .inl a1))] sz) := by
  refine gz_mvX (cc := cL_draws) (maxL := 7) (plainFor_of_name (by decide +kernel)) rfl (Nat.le_of_ble_eq_true rfl) ?_
  intro p e s m below meth c A QQ ls hx hb hml hown0 hts hK hN hA hP hD hS hl hX hbl hbA ret
  have hown : s.vm.findClass RL = some m.cls := hown0
  have hl : lv_has ls 7 [(0, .ref b), (1, .ref h_a1)] := hl
  have L38 : ∀ (x2 : Int32) (n : Nat) (x3 : Int32) (a1 : Nat → Int32) (H : Heap) (locs : List Loc) (ls : Array Slot), gi2 (p_L_draws_38 sL xs x2 Q) n x3 a1 → va_P (dC, dI) vwCl [(h_a1, .inl (cI, 51, .inl a1))] H → va_D A [(h_a1, .inl (cI, 51, .inl a1))] → va_S A s.heap H locs → lv_has ls 7 [(0, .ref b), (1, .ref h_a1), (2, .int x2), (3, .int x3)] → W p l e rm_L_draws s m [.ref b, .ref h_a1].toArray below meth c H locs 0 0 QQ (F0 m 38 ls []) := by
    intro x2 n
    induction n with
    | zero => intro x3 a1 H locs ls hf; exact False.elim hf
    | succ n ih38 =>
      generalize hK38 : gi2 (p_L_draws_38 sL xs x2 Q) n = K38 at ih38
      have L57 : ∀ (x3 : Int32) (x4 : Int32) (n : Nat) (x5 : Int32) (a1 : Nat → Int32) (H : Heap) (locs : List Loc) (ls : Array Slot), gi2 (p_L_draws_57 x2 x3 x4 K38) n x5 a1 → va_P (dC, dI) vwCl [(h_a1, .inl (cI, 51, .inl a1))] H → va_D A [(h_a1, .inl (cI, 51, .inl a1))] → va_S A s.heap H locs → lv_has ls 7 [(0, .ref b), (1, .ref h_a1), (2, .int x2), (3, .int x3), (4, .int x4), (5, .int x5)] → W p l e rm_L_draws s m [.ref b, .ref h_a1].toArray below meth c H locs 0 0 QQ (F0 m 57 ls []) := by
        intro x3 x4 n
        induction n with
        | zero => intro x5 a1 H locs ls hf; exact False.elim hf
        | succ n ih57 =>
          generalize hK57 : gi2 (p_L_draws_57 x2 x3 x4 K38) n = K57 at ih57
          have L133 : ∀ (x5 : Int32) (a1 : Nat → Int32) (s1 : Int32) (s2 : Int32) (H : Heap) (locs : List Loc) (ls : Array Slot), p_L_draws_133 a1 x5 s1 s2 K57 → va_P (dC, dI) vwCl [(h_a1, .inl (cI, 51, .inl a1))] H → va_D A [(h_a1, .inl (cI, 51, .inl a1))] → va_S A s.heap H locs → lv_has ls 7 [(0, .ref b), (1, .ref h_a1), (2, .int x2), (3, .int x3), (4, .int x4), (5, .int x5)] → W p l e rm_L_draws s m [.ref b, .ref h_a1].toArray below meth c H locs 0 0 QQ (F0 m 133 ls [.int s2, .int s1, .ref h_a1]) := by
            intro x5 a1 s1 s2 H locs ls hf hP hD hS hl
            obtain ⟨hb10, hf⟩ := hf
            refine va_iast hx hb hK hP hD hS 0 0 rfl rfl hb10 dL_draws_133 (fun H locs hP hD hS => ?_)
            have hP : va_P (dC, dI) vwCl [(h_a1, .inl (cI, 51, .inl (upd a1 s1.toNatClampNeg s2)))] H := hP
            have hD : va_D A [(h_a1, .inl (cI, 51, .inl (upd a1 s1.toNatClampNeg s2)))] := hD
            refine lv_iinc (v := (x5 + (1 : Int32))) (lv' := [(5, .int (x5 + (1 : Int32))), (0, .ref b), (1, .ref h_a1), (2, .int x2), (3, .int x3), (4, .int x4)]) hx hb dL_draws_134 hl (k := 5) rfl rfl (by decide) rfl (fun ls hl => ?_)
            refine lv_goto (tgt := 57) hx hb dL_draws_137 (by decide) ?_
            exact ih57 (x5 + (1 : Int32)) (upd a1 s1.toNatClampNeg s2) _ _ _ hf hP hD hS (lv_sub hl [1, 2, 3, 4, 5, 0] rfl)
          have L132 : ∀ (x5 : Int32) (a1 : Nat → Int32) (s1 : Int32) (s2 : Int32) (s3 : Int32) (H : Heap) (locs : List Loc) (ls : Array Slot), p_L_draws_132 a1 x5 s1 s2 s3 K57 → va_P (dC, dI) vwCl [(h_a1, .inl (cI, 51, .inl a1))] H → va_D A [(h_a1, .inl (cI, 51, .inl a1))] → va_S A s.heap H locs → lv_has ls 7 [(0, .ref b), (1, .ref h_a1), (2, .int x2), (3, .int x3), (4, .int x4), (5, .int x5)] → W p l e rm_L_draws s m [.ref b, .ref h_a1].toArray below meth c H locs 0 0 QQ (F0 m 132 ls [.int s3, .int s2, .int s1, .ref h_a1]) := by
            intro x5 a1 s1 s2 s3 H locs ls hf hP hD hS hl
            refine lv_imul hx hb dL_draws_132 ?_
            exact L133 x5 a1 s1 (s2 * s3) _ _ _ hf hP hD hS hl
          have L116 : ∀ (x5 : Int32) (x6 : Int32) (a1 : Nat → Int32) (s1 : Int32) (H : Heap) (locs : List Loc) (ls : Array Slot), p_L_draws_116 a1 x2 x5 x6 s1 K57 → va_P (dC, dI) vwCl [(h_a1, .inl (cI, 51, .inl a1))] H → va_D A [(h_a1, .inl (cI, 51, .inl a1))] → va_S A s.heap H locs → lv_has ls 7 [(0, .ref b), (1, .ref h_a1), (2, .int x2), (3, .int x3), (4, .int x4), (5, .int x5), (6, .int x6)] → W p l e rm_L_draws s m [.ref b, .ref h_a1].toArray below meth c H locs 0 0 QQ (F0 m 116 ls [.int s1, .ref h_a1]) := by
            intro x5 x6 a1 s1 H locs ls hf hP hD hS hl
            refine lv_iload hx hb dL_draws_116 (lv_at hl 6 rfl) ?_
            refine lv_iload_n hx hb dL_draws_118 rfl (lv_at hl 2 rfl) ?_
            refine lv_bipush (v := (7 : Int32)) hx hb dL_draws_119 (by decide) ?_
            refine lv_ishr hx hb dL_draws_121 ?_
            refine lv_iconst (v := (3 : Int32)) hx hb dL_draws_122 (by decide) ?_
            refine lv_iand hx hb dL_draws_123 ?_
            refine lv_if_ne (tgt := 131) hx hb dL_draws_124 (by decide) (fun hc11 => ?_) (fun hc11 => ?_)
            · have hf := hf.2 hc11
              refine lv_iconst (v := (1 : Int32)) hx hb dL_draws_131 (by decide) ?_
              exact L132 x5 a1 s1 x6 (1 : Int32) _ _ _ hf hP hD hS (lv_sub hl [0, 1, 2, 3, 4, 5] rfl)
            · have hf := hf.1 hc11
              refine lv_iconst (v := (2 : Int32)) hx hb dL_draws_127 (by decide) ?_
              refine lv_goto (tgt := 132) hx hb dL_draws_128 (by decide) ?_
              exact L132 x5 a1 s1 x6 (2 : Int32) _ _ _ hf hP hD hS (lv_sub hl [0, 1, 2, 3, 4, 5] rfl)
          intro x5 a1 H locs ls hf hP hD hS hl
          have hf : p_L_draws_57 x2 x3 x4 K38 (gi2 (p_L_draws_57 x2 x3 x4 K38) n) x5 a1 := hf
          rw [hK57] at hf
          refine lv_iload hx hb dL_draws_57 (lv_at hl 5 rfl) ?_
          refine lv_iconst (v := (4 : Int32)) hx hb dL_draws_59 (by decide) ?_
          refine lv_icmp_ge (tgt := 140) hx hb dL_draws_60 (by decide) (fun hc14 => ?_) (fun hc14 => ?_)
          · have hf := hf.1 hc14
            refine lv_aload_n hx hb dL_draws_140 rfl (lv_at hl 1 rfl) ?_
            refine lv_bipush (v := (7 : Int32)) hx hb dL_draws_141 (by decide) ?_
            refine lv_bipush (v := (6 : Int32)) hx hb dL_draws_143 (by decide) ?_
            refine lv_iload_n hx hb dL_draws_145 rfl (lv_at hl 3 rfl) ?_
            refine lv_imul hx hb dL_draws_146 ?_
            refine lv_iadd hx hb dL_draws_147 ?_
            refine lv_iload hx hb dL_draws_148 (lv_at hl 4 rfl) ?_
            refine lv_bipush (v := (20 : Int32)) hx hb dL_draws_150 (by decide) ?_
            refine lv_ishr hx hb dL_draws_152 ?_
            refine lv_bipush (v := (31 : Int32)) hx hb dL_draws_153 (by decide) ?_
            refine lv_iand hx hb dL_draws_155 ?_
            refine lv_bipush (v := (14 : Int32)) hx hb dL_draws_156 (by decide) ?_
            refine lv_isub hx hb dL_draws_158 ?_
            obtain ⟨hb7, hf⟩ := hf
            refine va_iast hx hb hK hP hD hS 0 0 rfl rfl hb7 dL_draws_159 (fun H locs hP hD hS => ?_)
            have hP : va_P (dC, dI) vwCl [(h_a1, .inl (cI, 51, .inl (upd a1 ((7 : Int32) + ((6 : Int32) * x3)).toNatClampNeg (((x4 >>> ((20 : Int32) &&& 31)) &&& (31 : Int32)) - (14 : Int32)))))] H := hP
            have hD : va_D A [(h_a1, .inl (cI, 51, .inl (upd a1 ((7 : Int32) + ((6 : Int32) * x3)).toNatClampNeg (((x4 >>> ((20 : Int32) &&& 31)) &&& (31 : Int32)) - (14 : Int32)))))] := hD
            refine lv_aload_n hx hb dL_draws_160 rfl (lv_at hl 1 rfl) ?_
            refine lv_bipush (v := (8 : Int32)) hx hb dL_draws_161 (by decide) ?_
            refine lv_bipush (v := (6 : Int32)) hx hb dL_draws_163 (by decide) ?_
            refine lv_iload_n hx hb dL_draws_165 rfl (lv_at hl 3 rfl) ?_
            refine lv_imul hx hb dL_draws_166 ?_
            refine lv_iadd hx hb dL_draws_167 ?_
            refine lv_iload hx hb dL_draws_168 (lv_at hl 4 rfl) ?_
            refine lv_bipush (v := (8 : Int32)) hx hb dL_draws_170 (by decide) ?_
            refine lv_ishr hx hb dL_draws_172 ?_
            refine lv_bipush (v := (7 : Int32)) hx hb dL_draws_173 (by decide) ?_
            refine lv_iand hx hb dL_draws_175 ?_
            refine lv_iconst (v := (5 : Int32)) hx hb dL_draws_176 (by decide) ?_
            refine lv_irem hx hb dL_draws_177 (by decide) ?_
            obtain ⟨hb8, hf⟩ := hf
            refine va_iast hx hb hK hP hD hS 0 0 rfl rfl hb8 dL_draws_178 (fun H locs hP hD hS => ?_)
            have hP : va_P (dC, dI) vwCl [(h_a1, .inl (cI, 51, .inl (upd (upd a1 ((7 : Int32) + ((6 : Int32) * x3)).toNatClampNeg (((x4 >>> ((20 : Int32) &&& 31)) &&& (31 : Int32)) - (14 : Int32))) ((8 : Int32) + ((6 : Int32) * x3)).toNatClampNeg (((x4 >>> ((8 : Int32) &&& 31)) &&& (7 : Int32)) - ((x4 >>> ((8 : Int32) &&& 31)) &&& (7 : Int32)) / (5 : Int32) * (5 : Int32)))))] H := hP
            have hD : va_D A [(h_a1, .inl (cI, 51, .inl (upd (upd a1 ((7 : Int32) + ((6 : Int32) * x3)).toNatClampNeg (((x4 >>> ((20 : Int32) &&& 31)) &&& (31 : Int32)) - (14 : Int32))) ((8 : Int32) + ((6 : Int32) * x3)).toNatClampNeg (((x4 >>> ((8 : Int32) &&& 31)) &&& (7 : Int32)) - ((x4 >>> ((8 : Int32) &&& 31)) &&& (7 : Int32)) / (5 : Int32) * (5 : Int32)))))] := hD
            refine lv_iinc (v := (x3 + (1 : Int32))) (lv' := [(3, .int (x3 + (1 : Int32))), (0, .ref b), (1, .ref h_a1), (2, .int x2), (4, .int x4), (5, .int x5)]) hx hb dL_draws_179 hl (k := 3) rfl rfl (by decide) rfl (fun ls hl => ?_)
            refine lv_goto (tgt := 38) hx hb dL_draws_182 (by decide) ?_
            exact ih38 (x3 + (1 : Int32)) (upd (upd a1 ((7 : Int32) + ((6 : Int32) * x3)).toNatClampNeg (((x4 >>> ((20 : Int32) &&& 31)) &&& (31 : Int32)) - (14 : Int32))) ((8 : Int32) + ((6 : Int32) * x3)).toNatClampNeg (((x4 >>> ((8 : Int32) &&& 31)) &&& (7 : Int32)) - ((x4 >>> ((8 : Int32) &&& 31)) &&& (7 : Int32)) / (5 : Int32) * (5 : Int32))) _ _ _ hf hP hD hS (lv_sub hl [1, 2, 3, 0] rfl)
          · have hf := hf.2 hc14
            refine lv_iload hx hb dL_draws_63 (lv_at hl 4 rfl) ?_
            refine lv_iconst (v := (5 : Int32)) hx hb dL_draws_65 (by decide) ?_
            refine lv_iload hx hb dL_draws_66 (lv_at hl 5 rfl) ?_
            refine lv_imul hx hb dL_draws_68 ?_
            refine lv_ishr hx hb dL_draws_69 ?_
            refine lv_bipush (v := (31 : Int32)) hx hb dL_draws_70 (by decide) ?_
            refine lv_iand hx hb dL_draws_72 ?_
            refine lv_bipush (v := (7 : Int32)) hx hb dL_draws_73 (by decide) ?_
            refine lv_irem hx hb dL_draws_75 (by decide) ?_
            refine lv_iconst (v := (3 : Int32)) hx hb dL_draws_76 (by decide) ?_
            refine lv_isub hx hb dL_draws_77 ?_
            refine lv_topi (fun z9 ez9 => ?_)
            have hf := hf z9 ez9
            refine lv_istore (lv' := [(6, .int z9), (0, .ref b), (1, .ref h_a1), (2, .int x2), (3, .int x3), (4, .int x4), (5, .int x5)]) hx hb dL_draws_78 hl (by decide) rfl (fun ls hl => ?_)
            refine lv_aload_n hx hb dL_draws_80 rfl (lv_at hl 2 rfl) ?_
            refine lv_iconst (v := (3 : Int32)) hx hb dL_draws_81 (by decide) ?_
            refine lv_bipush (v := (6 : Int32)) hx hb dL_draws_82 (by decide) ?_
            refine lv_iload_n hx hb dL_draws_84 rfl (lv_at hl 4 rfl) ?_
            refine lv_imul hx hb dL_draws_85 ?_
            refine lv_iadd hx hb dL_draws_86 ?_
            refine lv_iload hx hb dL_draws_87 (lv_at hl 6 rfl) ?_
            refine lv_iadd hx hb dL_draws_89 ?_
            refine lv_iload hx hb dL_draws_90 (lv_at hl 5 rfl) ?_
            refine lv_bipush (v := (25 : Int32)) hx hb dL_draws_92 (by decide) ?_
            refine lv_iload hx hb dL_draws_94 (lv_at hl 6 rfl) ?_
            refine lv_iadd hx hb dL_draws_96 ?_
            refine lv_ishr hx hb dL_draws_97 ?_
            refine lv_iconst (v := (1 : Int32)) hx hb dL_draws_98 (by decide) ?_
            refine lv_iand hx hb dL_draws_99 ?_
            refine lv_if_ne (tgt := 116) hx hb dL_draws_100 (by decide) (fun hc13 => ?_) (fun hc13 => ?_)
            · have hf := hf.2 hc13
              exact L116 x5 z9 a1 (((3 : Int32) + ((6 : Int32) * x3)) + x5) _ _ _ hf hP hD hS (lv_sub hl [1, 2, 3, 4, 5, 6, 0] rfl)
            · have hf := hf.1 hc13
              refine lv_iload_n hx hb dL_draws_103 rfl (lv_at hl 3 rfl) ?_
              refine lv_bipush (v := (6 : Int32)) hx hb dL_draws_104 (by decide) ?_
              refine lv_ishr hx hb dL_draws_106 ?_
              refine lv_iconst (v := (1 : Int32)) hx hb dL_draws_107 (by decide) ?_
              refine lv_iand hx hb dL_draws_108 ?_
              refine lv_if_ne (tgt := 116) hx hb dL_draws_109 (by decide) (fun hc12 => ?_) (fun hc12 => ?_)
              · have hf := hf.2 hc12
                exact L116 x5 z9 a1 (((3 : Int32) + ((6 : Int32) * x3)) + x5) _ _ _ hf hP hD hS (lv_sub hl [1, 2, 3, 4, 5, 6, 0] rfl)
              · have hf := hf.1 hc12
                refine lv_iconst (v := (0 : Int32)) hx hb dL_draws_112 (by decide) ?_
                refine lv_goto (tgt := 133) hx hb dL_draws_113 (by decide) ?_
                exact L133 x5 a1 (((3 : Int32) + ((6 : Int32) * x3)) + x5) (0 : Int32) _ _ _ hf hP hD hS (lv_sub hl [1, 2, 3, 4, 5, 6] rfl)
      intro x3 a1 H locs ls hf hP hD hS hl
      have hf : p_L_draws_38 sL xs x2 Q (gi2 (p_L_draws_38 sL xs x2 Q) n) x3 a1 := hf
      rw [hK38] at hf
      refine lv_iload_n hx hb dL_draws_38 rfl (lv_at hl 3 rfl) ?_
      refine lv_aload_n hx hb dL_draws_39 rfl (lv_at hl 1 rfl) ?_
      refine lv_iconst (v := (0 : Int32)) hx hb dL_draws_40 (by decide) ?_
      obtain ⟨hb5, hf⟩ := hf
      refine va_iald hx hb hK hP 0 0 rfl rfl hb5 dL_draws_41 ?_
      refine lv_icmp_ge (tgt := 185) hx hb dL_draws_42 (by decide) (fun hc15 => ?_) (fun hc15 => ?_)
      · have hf := hf.1 hc15
        exact ret _ _ _ _ a1 hf hP hD hS dL_draws_185
      · have hf := hf.2 hc15
        refine lv_aload_n hx hb dL_draws_45 rfl (lv_at hl 0 rfl) ?_
        refine lv_iconst (v := (1 : Int32)) hx hb dL_draws_46 (by decide) ?_
        refine lv_iload_n hx hb dL_draws_47 rfl (lv_at hl 3 rfl) ?_
        refine lv_iadd hx hb dL_draws_48 ?_
        refine gz_i0 (va_runS (As := [.ref b, .int ((1 : Int32) + x3)]) (rest := []) ⟨hx, hb, hml, hown, hts⟩ (c_L_cell l dC dI cI cJ cC cZ b H.size sL xs ((1 : Int32) + x3) _ hf) (va_cwS 2 hts gL_draws_L_cell rfl rfl rfl (by decide +kernel) ⟨Nat.le_of_ble_eq_true rfl, Nat.le_of_ble_eq_true rfl⟩) ⟨gz_blindX, gz_preX hX hbl hbA hS (gz_P_of hP (is := []) (wc := []) rfl) hK (hD.sub [] (by decide) rfl) gz_N0⟩ rfl rfl hl.1 rfl (lv_room (Nat.le_of_ble_eq_true rfl)) dL_draws_49 ⟨Nat.le_refl _, Nat.le_refl _⟩) hP hD hS hA (fun r6 H locs hf hP hS => ?_)
        refine lv_istore (lv' := [(4, .int r6), (0, .ref b), (1, .ref h_a1), (2, .int x2), (3, .int x3)]) hx hb dL_draws_52 hl (by decide) rfl (fun ls hl => ?_)
        refine lv_iconst (v := (0 : Int32)) hx hb dL_draws_54 (by decide) ?_
        refine lv_istore (lv' := [(5, .int (0 : Int32)), (4, .int r6), (0, .ref b), (1, .ref h_a1), (2, .int x2), (3, .int x3)]) hx hb dL_draws_55 hl (by decide) rfl (fun ls hl => ?_)
        obtain ⟨n, hf⟩ := hf
        exact L57 x3 r6 n (0 : Int32) a1 _ _ _ hf hP hD hS (lv_sub hl [2, 3, 4, 5, 1, 0] rfl)
  have hf := hw
  refine lv_aload_n hx hb dL_draws_0 rfl (lv_at hl 0 rfl) ?_
  refine lv_iconst (v := (0 : Int32)) hx hb dL_draws_1 (by decide) ?_
  refine gz_i0 (va_runS (As := [.ref b, .int (0 : Int32)]) (rest := []) ⟨hx, hb, hml, hown, hts⟩ (c_L_cell l dC dI cI cJ cC cZ b s.heap.size sL xs (0 : Int32) _ hf) (va_cwS 2 hts gL_draws_L_cell rfl rfl rfl (by decide +kernel) ⟨Nat.le_of_ble_eq_true rfl, Nat.le_of_ble_eq_true rfl⟩) ⟨gz_blindX, gz_preX hX hbl hbA hS (gz_P_of hP (is := []) (wc := []) rfl) hK (hD.sub [] (by decide) rfl) gz_N0⟩ rfl rfl hl.1 rfl (lv_room (Nat.le_of_ble_eq_true rfl)) dL_draws_2 ⟨Nat.le_refl _, Nat.le_refl _⟩) hP hD hS hA (fun r1 H locs hf hP hS => ?_)
  refine lv_istore_n (lv' := [(2, .int r1), (0, .ref b), (1, .ref h_a1)]) hx hb dL_draws_5 rfl hl (by decide) rfl (fun ls hl => ?_)
  refine lv_aload_n hx hb dL_draws_6 rfl (lv_at hl 2 rfl) ?_
  refine lv_iconst (v := (0 : Int32)) hx hb dL_draws_7 (by decide) ?_
  refine lv_iload_n hx hb dL_draws_8 rfl (lv_at hl 0 rfl) ?_
  refine lv_bipush (v := (7 : Int32)) hx hb dL_draws_9 (by decide) ?_
  refine lv_iand hx hb dL_draws_11 ?_
  refine lv_bipush (v := (7 : Int32)) hx hb dL_draws_12 (by decide) ?_
  refine lv_irem hx hb dL_draws_14 (by decide) ?_
  obtain ⟨hb2, hf⟩ := hf
  refine va_iast hx hb hK hP hD hS 0 0 rfl rfl hb2 dL_draws_15 (fun H locs hP hD hS => ?_)
  have hP : va_P (dC, dI) vwCl [(h_a1, .inl (cI, 51, .inl (upd a1 (0 : Int32).toNatClampNeg ((r1 &&& (7 : Int32)) - (r1 &&& (7 : Int32)) / (7 : Int32) * (7 : Int32)))))] H := hP
  have hD : va_D A [(h_a1, .inl (cI, 51, .inl (upd a1 (0 : Int32).toNatClampNeg ((r1 &&& (7 : Int32)) - (r1 &&& (7 : Int32)) / (7 : Int32) * (7 : Int32)))))] := hD
  refine lv_aload_n hx hb dL_draws_16 rfl (lv_at hl 2 rfl) ?_
  refine lv_iconst (v := (1 : Int32)) hx hb dL_draws_17 (by decide) ?_
  refine lv_iconst (v := (1 : Int32)) hx hb dL_draws_18 (by decide) ?_
  refine lv_iload_n hx hb dL_draws_19 rfl (lv_at hl 0 rfl) ?_
  refine lv_iconst (v := (3 : Int32)) hx hb dL_draws_20 (by decide) ?_
  refine lv_ishr hx hb dL_draws_21 ?_
  refine lv_iconst (v := (3 : Int32)) hx hb dL_draws_22 (by decide) ?_
  refine lv_iand hx hb dL_draws_23 ?_
  refine lv_iadd hx hb dL_draws_24 ?_
  refine lv_iload_n hx hb dL_draws_25 rfl (lv_at hl 0 rfl) ?_
  refine lv_iconst (v := (5 : Int32)) hx hb dL_draws_26 (by decide) ?_
  refine lv_ishr hx hb dL_draws_27 ?_
  refine lv_iconst (v := (1 : Int32)) hx hb dL_draws_28 (by decide) ?_
  refine lv_iand hx hb dL_draws_29 ?_
  refine lv_iadd hx hb dL_draws_30 ?_
  obtain ⟨hb3, hf⟩ := hf
  refine va_iast hx hb hK hP hD hS 0 0 rfl rfl hb3 dL_draws_31 (fun H locs hP hD hS => ?_)
  have hP : va_P (dC, dI) vwCl [(h_a1, .inl (cI, 51, .inl (upd (upd a1 (0 : Int32).toNatClampNeg ((r1 &&& (7 : Int32)) - (r1 &&& (7 : Int32)) / (7 : Int32) * (7 : Int32))) (1 : Int32).toNatClampNeg (((1 : Int32) + ((r1 >>> ((3 : Int32) &&& 31)) &&& (3 : Int32))) + ((r1 >>> ((5 : Int32) &&& 31)) &&& (1 : Int32))))))] H := hP
  have hD : va_D A [(h_a1, .inl (cI, 51, .inl (upd (upd a1 (0 : Int32).toNatClampNeg ((r1 &&& (7 : Int32)) - (r1 &&& (7 : Int32)) / (7 : Int32) * (7 : Int32))) (1 : Int32).toNatClampNeg (((1 : Int32) + ((r1 >>> ((3 : Int32) &&& 31)) &&& (3 : Int32))) + ((r1 >>> ((5 : Int32) &&& 31)) &&& (1 : Int32))))))] := hD
  refine lv_aload_n hx hb dL_draws_32 rfl (lv_at hl 2 rfl) ?_
  refine lv_iconst (v := (2 : Int32)) hx hb dL_draws_33 (by decide) ?_
  refine lv_iconst (v := (1 : Int32)) hx hb dL_draws_34 (by decide) ?_
  obtain ⟨hb4, hf⟩ := hf
  refine va_iast hx hb hK hP hD hS 0 0 rfl rfl hb4 dL_draws_35 (fun H locs hP hD hS => ?_)
  have hP : va_P (dC, dI) vwCl [(h_a1, .inl (cI, 51, .inl (upd (upd (upd a1 (0 : Int32).toNatClampNeg ((r1 &&& (7 : Int32)) - (r1 &&& (7 : Int32)) / (7 : Int32) * (7 : Int32))) (1 : Int32).toNatClampNeg (((1 : Int32) + ((r1 >>> ((3 : Int32) &&& 31)) &&& (3 : Int32))) + ((r1 >>> ((5 : Int32) &&& 31)) &&& (1 : Int32)))) (2 : Int32).toNatClampNeg (1 : Int32))))] H := hP
  have hD : va_D A [(h_a1, .inl (cI, 51, .inl (upd (upd (upd a1 (0 : Int32).toNatClampNeg ((r1 &&& (7 : Int32)) - (r1 &&& (7 : Int32)) / (7 : Int32) * (7 : Int32))) (1 : Int32).toNatClampNeg (((1 : Int32) + ((r1 >>> ((3 : Int32) &&& 31)) &&& (3 : Int32))) + ((r1 >>> ((5 : Int32) &&& 31)) &&& (1 : Int32)))) (2 : Int32).toNatClampNeg (1 : Int32))))] := hD
  refine lv_iconst (v := (0 : Int32)) hx hb dL_draws_36 (by decide) ?_
  refine lv_istore_n (lv' := [(3, .int (0 : Int32)), (2, .int r1), (0, .ref b), (1, .ref h_a1)]) hx hb dL_draws_37 rfl hl (by decide) rfl (fun ls hl => ?_)
  obtain ⟨n, hf⟩ := hf
  exact L38 r1 n (0 : Int32) (upd (upd (upd a1 (0 : Int32).toNatClampNeg ((r1 &&& (7 : Int32)) - (r1 &&& (7 : Int32)) / (7 : Int32) * (7 : Int32))) (1 : Int32).toNatClampNeg (((1 : Int32) + ((r1 >>> ((3 : Int32) &&& 31)) &&& (3 : Int32))) + ((r1 >>> ((5 : Int32) &&& 31)) &&& (1 : Int32)))) (2 : Int32).toNatClampNeg (1 : Int32)) _ _ _ hf hP hD hS (lv_sub hl [2, 3, 1, 0] rfl)
abbrev rm_L_says : Room := { frames := 2, cells := 0, slots := 0, locals := 43 }
set_option maxHeartbeats 4000000 in
set_option maxRecDepth 100000 in
theorem c_L_says (l : Launch) (dC : Nat → ClassId) (dI : Nat → Nat → Nat) (cI cJ cC cZ : ClassId) (h_a0 h_a0_book h_a0_kept h_a0_tape h_a0_search h_a0_shade h_a0_sheets h_a0_tape_letters h_a0_tape_told h_a1 : Nat) (sz : Nat) (a0_hasImage : Int32) (a0_tape_length : Int32) (a0_tape_place : Int32) (a0_tape_lettersTold : Int32) (a0_tape_restTold : Int32) (a0_tape_letters : Nat → Int32) (a1 : Nat → Int32) (x2 : Int32) (Q : Int32 → Int32 → (Nat → Int32) → Prop) (hw : p_L_says a0_tape_length a0_tape_letters a1 x2 Q) : Met l yL_says wsL_says rm_L_says (va_Pc [.ref h_a0, .ref h_a1, .int x2] (gz_B (dC, dI) (gz_T cI cJ cC cZ) [] sz [(h_a0, .inr (7, [.ref h_a0_book, .ref h_a0_kept, .int a0_hasImage, .ref h_a0_tape, .ref h_a0_search, .ref h_a0_shade, .ref h_a0_sheets])), (h_a0_tape, .inr (5, [.ref h_a0_tape_letters, .int a0_tape_length, .int a0_tape_place, .ref h_a0_tape_told, .int a0_tape_lettersTold, .int a0_tape_restTold])), (h_a0_tape_letters, .inl (cC, 130, .inl a0_tape_letters)), (h_a1, .inl (cI, 51, .inl a1))])) (va_Qi (fun (r : Int32) (u : Int32 × (Nat → Int32)) => Q r u.1 u.2) (fun u t => gz_E (dC, dI) (gz_T cI cJ cC cZ) (va_A [(h_a0, .inr (7, [.ref h_a0_book, .ref h_a0_kept, .int a0_hasImage, .ref h_a0_tape, .ref h_a0_search, .ref h_a0_shade, .ref h_a0_sheets])), (h_a0_tape, .inr (5, [.ref h_a0_tape_letters, .int a0_tape_length, .int a0_tape_place, .ref h_a0_tape_told, .int a0_tape_lettersTold, .int a0_tape_restTold])), (h_a0_tape_letters, .inl (cC, 130, .inl a0_tape_letters)), (h_a1, .inl (cI, 51, .inl a1))] sz) [(h_a0, .inr (7, [.ref h_a0_book, .ref h_a0_kept, .int a0_hasImage, .ref h_a0_tape, .ref h_a0_search, .ref h_a0_shade, .ref h_a0_sheets])), (h_a0_tape, .inr (5, [.ref h_a0_tape_letters, .int u.1, .int a0_tape_place, .ref h_a0_tape_told, .int a0_tape_lettersTold, .int a0_tape_restTold])), (h_a0_tape_letters, .inl (cC, 130, .inl u.2)), (h_a1, .inl (cI, 51, .inl a1))] t) (va_A [(h_a0, .inr (7, [.ref h_a0_book, .ref h_a0_kept, .int a0_hasImage, .ref h_a0_tape, .ref h_a0_search, .ref h_a0_shade, .ref h_a0_sheets])), (h_a0_tape, .inr (5, [.ref h_a0_tape_letters, .int a0_tape_length, .int a0_tape_place, .ref h_a0_tape_told, .int a0_tape_lettersTold, .int a0_tape_restTold])), (h_a0_tape_letters, .inl (cC, 130, .inl a0_tape_letters)), (h_a1, .inl (cI, 51, .inl a1))] sz)) 0 0 (va_A [(h_a0, .inr (7, [.ref h_a0_book, .ref h_a0_kept, .int a0_hasImage, .ref h_a0_tape, .ref h_a0_search, .ref h_a0_shade, .ref h_a0_sheets])), (h_a0_tape, .inr (5, [.ref h_a0_tape_letters, .int a0_tape_length, .int a0_tape_place, .ref h_a0_tape_told, .int a0_tape_lettersTold, .int a0_tape_restTold])), (h_a0_tape_letters, .inl (cC, 130, .inl a0_tape_letters)), (h_a1, .inl (cI, 51, .inl a1))] sz) := by
  refine gz_mz (cc := cL_says) (maxL := 7) (plainFor_of_name (by decide +kernel)) rfl (Nat.le_of_ble_eq_true rfl) ?_
  intro p e s m below meth c A QQ ls hx hb hml hown0 hts hK hN hA hP hD hS hl ret
  have hown : s.vm.findClass RL = some m.cls := hown0
  have hl : lv_has ls 7 [(0, .ref h_a0), (1, .ref h_a1), (2, .int x2)] := hl
  have L152 : ∀ (x3 : Int32) (a0_tape_length : Int32) (a0_tape_letters : Nat → Int32) (H : Heap) (locs : List Loc) (ls : Array Slot), p_L_says_152 a0_tape_length a0_tape_letters a1 x2 x3 Q → va_P (dC, dI) vwCl [(h_a0, .inr (7, [.ref h_a0_book, .ref h_a0_kept, .int a0_hasImage, .ref h_a0_tape, .ref h_a0_search, .ref h_a0_shade, .ref h_a0_sheets])), (h_a0_tape, .inr (5, [.ref h_a0_tape_letters, .int a0_tape_length, .int a0_tape_place, .ref h_a0_tape_told, .int a0_tape_lettersTold, .int a0_tape_restTold])), (h_a0_tape_letters, .inl (cC, 130, .inl a0_tape_letters)), (h_a1, .inl (cI, 51, .inl a1))] H → va_D A [(h_a0, .inr (7, [.ref h_a0_book, .ref h_a0_kept, .int a0_hasImage, .ref h_a0_tape, .ref h_a0_search, .ref h_a0_shade, .ref h_a0_sheets])), (h_a0_tape, .inr (5, [.ref h_a0_tape_letters, .int a0_tape_length, .int a0_tape_place, .ref h_a0_tape_told, .int a0_tape_lettersTold, .int a0_tape_restTold])), (h_a0_tape_letters, .inl (cC, 130, .inl a0_tape_letters)), (h_a1, .inl (cI, 51, .inl a1))] → va_S A s.heap H locs → lv_has ls 7 [(0, .ref h_a0), (1, .ref h_a1), (2, .int x2), (3, .int x3)] → W p l e rm_L_says s m [.ref h_a0, .ref h_a1, .int x2].toArray below meth c H locs 0 0 QQ (F0 m 152 ls []) := by
    intro x3 a0_tape_length a0_tape_letters H locs ls hf hP hD hS hl
    refine lv_iload_n hx hb dL_says_152 rfl (lv_at hl 3 rfl) ?_
    refine lv_if_eq (tgt := 179) hx hb dL_says_153 (by decide) (fun hc7 => ?_) (fun hc7 => ?_)
    · have hf := hf.1 hc7
      refine lv_iconst (v := (0 : Int32)) hx hb dL_says_179 (by decide) ?_
      exact ret _ _ _ _ (0 : Int32) (a0_tape_length, a0_tape_letters) rfl hf hP hD hS dL_says_180
    · have hf := hf.2 hc7
      refine lv_aload_n hx hb dL_says_156 rfl (lv_at hl 0 rfl) ?_
      refine lv_aload_n hx hb dL_says_157 rfl (lv_at hl 1 rfl) ?_
      refine lv_bipush (v := (8 : Int32)) hx hb dL_says_158 (by decide) ?_
      refine lv_bipush (v := (6 : Int32)) hx hb dL_says_160 (by decide) ?_
      refine lv_iload_n hx hb dL_says_162 rfl (lv_at hl 2 rfl) ?_
      refine lv_imul hx hb dL_says_163 ?_
      refine lv_iadd hx hb dL_says_164 ?_
      obtain ⟨hb1, hf⟩ := hf
      refine va_iald hx hb hK hP 3 0 rfl rfl hb1 dL_says_165 ?_
      refine gz_i0 (va_runS (As := [.int (a1 ((8 : Int32) + ((6 : Int32) * x2)).toNatClampNeg)]) (rest := [.ref h_a0]) ⟨hx, hb, hml, hown, hts⟩ (c_L_sign l dC dI cI cJ cC cZ H.size (a1 ((8 : Int32) + ((6 : Int32) * x2)).toNatClampNeg) _ hf) (va_cwS 1 hts gL_says_L_sign rfl rfl rfl (by decide +kernel) ⟨Nat.le_of_ble_eq_true rfl, Nat.le_of_ble_eq_true rfl⟩) ⟨gz_blind, gz_pre (gz_P_of hP (is := []) (wc := []) rfl) hK (hD.sub [] (by decide) rfl) gz_N0⟩ rfl rfl hl.1 rfl (lv_room (Nat.le_of_ble_eq_true rfl)) dL_says_166 ⟨Nat.le_refl _, Nat.le_refl _⟩) hP hD hS hA (fun r2 H locs hf hP hS => ?_)
      refine gz_i (W1 := (fun u : Int32 × (Nat → Int32) => [(h_a0, .inr (7, [.ref h_a0_book, .ref h_a0_kept, .int a0_hasImage, .ref h_a0_tape, .ref h_a0_search, .ref h_a0_shade, .ref h_a0_sheets])), (h_a0_tape, .inr (5, [.ref h_a0_tape_letters, .int u.1, .int a0_tape_place, .ref h_a0_tape_told, .int a0_tape_lettersTold, .int a0_tape_restTold])), (h_a0_tape_letters, .inl (cC, 130, .inl u.2))])) (wn := (fun u : Int32 × (Nat → Int32) => [(h_a0, .inr (7, [.ref h_a0_book, .ref h_a0_kept, .int a0_hasImage, .ref h_a0_tape, .ref h_a0_search, .ref h_a0_shade, .ref h_a0_sheets])), (h_a0_tape, .inr (5, [.ref h_a0_tape_letters, .int u.1, .int a0_tape_place, .ref h_a0_tape_told, .int a0_tape_lettersTold, .int a0_tape_restTold])), (h_a0_tape_letters, .inl (cC, 130, .inl u.2)), (h_a1, .inl (cI, 51, .inl a1))])) (wr := [(h_a1, .inl (cI, 51, .inl a1))]) (va_runV (As := [.int r2]) (rest := []) ⟨hx, hb, hml, hown, hts⟩ (c_X10_type l dC dI cI cJ cC cZ h_a0 h_a0_book h_a0_kept h_a0_tape h_a0_search h_a0_shade h_a0_sheets h_a0_tape_letters h_a0_tape_told H.size a0_hasImage a0_tape_length a0_tape_place a0_tape_lettersTold a0_tape_restTold a0_tape_letters r2 _ hf) (cwV 1 hts gL_says_X10_type rfl rfl rfl (by decide +kernel) ⟨Nat.le_of_ble_eq_true rfl, Nat.le_of_ble_eq_true rfl⟩) ⟨gz_blind, va_recv hK hP (ci := 7) (q0 := 0) rfl rfl, gz_pre (gz_P_of hP (is := [0, 1, 2]) (wc := [(h_a0, .inr (7, [.ref h_a0_book, .ref h_a0_kept, .int a0_hasImage, .ref h_a0_tape, .ref h_a0_search, .ref h_a0_shade, .ref h_a0_sheets])), (h_a0_tape, .inr (5, [.ref h_a0_tape_letters, .int a0_tape_length, .int a0_tape_place, .ref h_a0_tape_told, .int a0_tape_lettersTold, .int a0_tape_restTold])), (h_a0_tape_letters, .inl (cC, 130, .inl a0_tape_letters))]) rfl) hK (hD.sub [0, 1, 2] (by decide) rfl) gz_N0⟩ rfl rfl hl.1 rfl (lv_room (Nat.le_of_ble_eq_true rfl)) dL_says_169 ⟨Nat.le_refl _, Nat.le_refl _⟩) hP hD hS hA [0, 1, 2] [3] [1, 2, 3, 0] rfl rfl (by decide) (by decide) (fun _ => rfl) (by decide) (fun r3 u H locs hf hP hD hS => ?_)
      obtain ⟨y4, y5⟩ := u
      have hP : va_P (dC, dI) vwCl [(h_a0, .inr (7, [.ref h_a0_book, .ref h_a0_kept, .int a0_hasImage, .ref h_a0_tape, .ref h_a0_search, .ref h_a0_shade, .ref h_a0_sheets])), (h_a0_tape, .inr (5, [.ref h_a0_tape_letters, .int y4, .int a0_tape_place, .ref h_a0_tape_told, .int a0_tape_lettersTold, .int a0_tape_restTold])), (h_a0_tape_letters, .inl (cC, 130, .inl y5)), (h_a1, .inl (cI, 51, .inl a1))] H := hP
      have hD : va_D A [(h_a0, .inr (7, [.ref h_a0_book, .ref h_a0_kept, .int a0_hasImage, .ref h_a0_tape, .ref h_a0_search, .ref h_a0_shade, .ref h_a0_sheets])), (h_a0_tape, .inr (5, [.ref h_a0_tape_letters, .int y4, .int a0_tape_place, .ref h_a0_tape_told, .int a0_tape_lettersTold, .int a0_tape_restTold])), (h_a0_tape_letters, .inl (cC, 130, .inl y5)), (h_a1, .inl (cI, 51, .inl a1))] := hD
      refine lv_if_le (tgt := 179) hx hb dL_says_172 (by decide) (fun hc6 => ?_) (fun hc6 => ?_)
      · have hf := hf.1 hc6
        refine lv_iconst (v := (0 : Int32)) hx hb dL_says_179 (by decide) ?_
        exact ret _ _ _ _ (0 : Int32) (y4, y5) rfl hf hP hD hS dL_says_180
      · have hf := hf.2 hc6
        refine lv_iconst (v := (1 : Int32)) hx hb dL_says_175 (by decide) ?_
        refine lv_goto (tgt := 180) hx hb dL_says_176 (by decide) ?_
        exact ret _ _ _ _ (1 : Int32) (y4, y5) rfl hf hP hD hS dL_says_180
  have L5 : ∀ (n : Nat) (x3 : Int32) (x4 : Int32) (a0_tape_length : Int32) (a0_tape_letters : Nat → Int32) (H : Heap) (locs : List Loc) (ls : Array Slot), gi4 (p_L_says_5 a1 x2 Q) n x3 x4 a0_tape_length a0_tape_letters → va_P (dC, dI) vwCl [(h_a0, .inr (7, [.ref h_a0_book, .ref h_a0_kept, .int a0_hasImage, .ref h_a0_tape, .ref h_a0_search, .ref h_a0_shade, .ref h_a0_sheets])), (h_a0_tape, .inr (5, [.ref h_a0_tape_letters, .int a0_tape_length, .int a0_tape_place, .ref h_a0_tape_told, .int a0_tape_lettersTold, .int a0_tape_restTold])), (h_a0_tape_letters, .inl (cC, 130, .inl a0_tape_letters)), (h_a1, .inl (cI, 51, .inl a1))] H → va_D A [(h_a0, .inr (7, [.ref h_a0_book, .ref h_a0_kept, .int a0_hasImage, .ref h_a0_tape, .ref h_a0_search, .ref h_a0_shade, .ref h_a0_sheets])), (h_a0_tape, .inr (5, [.ref h_a0_tape_letters, .int a0_tape_length, .int a0_tape_place, .ref h_a0_tape_told, .int a0_tape_lettersTold, .int a0_tape_restTold])), (h_a0_tape_letters, .inl (cC, 130, .inl a0_tape_letters)), (h_a1, .inl (cI, 51, .inl a1))] → va_S A s.heap H locs → lv_has ls 7 [(0, .ref h_a0), (1, .ref h_a1), (2, .int x2), (3, .int x3), (4, .int x4)] → W p l e rm_L_says s m [.ref h_a0, .ref h_a1, .int x2].toArray below meth c H locs 0 0 QQ (F0 m 5 ls []) := by
    intro  n
    induction n with
    | zero => intro x3 x4 a0_tape_length a0_tape_letters H locs ls hf; exact False.elim hf
    | succ n ih5 =>
      generalize hK5 : gi4 (p_L_says_5 a1 x2 Q) n = K5 at ih5
      have L146 : ∀ (x3 : Int32) (x4 : Int32) (a0_tape_length : Int32) (a0_tape_letters : Nat → Int32) (H : Heap) (locs : List Loc) (ls : Array Slot), p_L_says_146 a0_tape_length a0_tape_letters x3 x4 K5 → va_P (dC, dI) vwCl [(h_a0, .inr (7, [.ref h_a0_book, .ref h_a0_kept, .int a0_hasImage, .ref h_a0_tape, .ref h_a0_search, .ref h_a0_shade, .ref h_a0_sheets])), (h_a0_tape, .inr (5, [.ref h_a0_tape_letters, .int a0_tape_length, .int a0_tape_place, .ref h_a0_tape_told, .int a0_tape_lettersTold, .int a0_tape_restTold])), (h_a0_tape_letters, .inl (cC, 130, .inl a0_tape_letters)), (h_a1, .inl (cI, 51, .inl a1))] H → va_D A [(h_a0, .inr (7, [.ref h_a0_book, .ref h_a0_kept, .int a0_hasImage, .ref h_a0_tape, .ref h_a0_search, .ref h_a0_shade, .ref h_a0_sheets])), (h_a0_tape, .inr (5, [.ref h_a0_tape_letters, .int a0_tape_length, .int a0_tape_place, .ref h_a0_tape_told, .int a0_tape_lettersTold, .int a0_tape_restTold])), (h_a0_tape_letters, .inl (cC, 130, .inl a0_tape_letters)), (h_a1, .inl (cI, 51, .inl a1))] → va_S A s.heap H locs → lv_has ls 7 [(0, .ref h_a0), (1, .ref h_a1), (2, .int x2), (3, .int x3), (4, .int x4)] → W p l e rm_L_says s m [.ref h_a0, .ref h_a1, .int x2].toArray below meth c H locs 0 0 QQ (F0 m 146 ls []) := by
        intro x3 x4 a0_tape_length a0_tape_letters H locs ls hf hP hD hS hl
        refine lv_iinc (v := (x4 + (1 : Int32))) (lv' := [(4, .int (x4 + (1 : Int32))), (0, .ref h_a0), (1, .ref h_a1), (2, .int x2), (3, .int x3)]) hx hb dL_says_146 hl (k := 4) rfl rfl (by decide) rfl (fun ls hl => ?_)
        refine lv_goto (tgt := 5) hx hb dL_says_149 (by decide) ?_
        exact ih5 x3 (x4 + (1 : Int32)) a0_tape_length a0_tape_letters _ _ _ hf hP hD hS (lv_sub hl [1, 2, 3, 4, 0] rfl)
      have L145 : ∀ (x4 : Int32) (a0_tape_length : Int32) (a0_tape_letters : Nat → Int32) (s0 : Int32) (H : Heap) (locs : List Loc) (ls : Array Slot), p_L_says_145 a0_tape_length a0_tape_letters x4 s0 K5 → va_P (dC, dI) vwCl [(h_a0, .inr (7, [.ref h_a0_book, .ref h_a0_kept, .int a0_hasImage, .ref h_a0_tape, .ref h_a0_search, .ref h_a0_shade, .ref h_a0_sheets])), (h_a0_tape, .inr (5, [.ref h_a0_tape_letters, .int a0_tape_length, .int a0_tape_place, .ref h_a0_tape_told, .int a0_tape_lettersTold, .int a0_tape_restTold])), (h_a0_tape_letters, .inl (cC, 130, .inl a0_tape_letters)), (h_a1, .inl (cI, 51, .inl a1))] H → va_D A [(h_a0, .inr (7, [.ref h_a0_book, .ref h_a0_kept, .int a0_hasImage, .ref h_a0_tape, .ref h_a0_search, .ref h_a0_shade, .ref h_a0_sheets])), (h_a0_tape, .inr (5, [.ref h_a0_tape_letters, .int a0_tape_length, .int a0_tape_place, .ref h_a0_tape_told, .int a0_tape_lettersTold, .int a0_tape_restTold])), (h_a0_tape_letters, .inl (cC, 130, .inl a0_tape_letters)), (h_a1, .inl (cI, 51, .inl a1))] → va_S A s.heap H locs → lv_has ls 7 [(0, .ref h_a0), (1, .ref h_a1), (2, .int x2), (4, .int x4)] → W p l e rm_L_says s m [.ref h_a0, .ref h_a1, .int x2].toArray below meth c H locs 0 0 QQ (F0 m 145 ls [.int s0]) := by
        intro x4 a0_tape_length a0_tape_letters s0 H locs ls hf hP hD hS hl
        refine lv_istore_n (lv' := [(3, .int s0), (0, .ref h_a0), (1, .ref h_a1), (2, .int x2), (4, .int x4)]) hx hb dL_says_145 rfl hl (by decide) rfl (fun ls hl => ?_)
        exact L146 s0 x4 a0_tape_length a0_tape_letters _ _ _ hf hP hD hS (lv_sub hl [1, 2, 3, 0, 4] rfl)
      have L144 : ∀ (x4 : Int32) (a0_tape_length : Int32) (a0_tape_letters : Nat → Int32) (H : Heap) (locs : List Loc) (ls : Array Slot), p_L_says_144 a0_tape_length a0_tape_letters x4 K5 → va_P (dC, dI) vwCl [(h_a0, .inr (7, [.ref h_a0_book, .ref h_a0_kept, .int a0_hasImage, .ref h_a0_tape, .ref h_a0_search, .ref h_a0_shade, .ref h_a0_sheets])), (h_a0_tape, .inr (5, [.ref h_a0_tape_letters, .int a0_tape_length, .int a0_tape_place, .ref h_a0_tape_told, .int a0_tape_lettersTold, .int a0_tape_restTold])), (h_a0_tape_letters, .inl (cC, 130, .inl a0_tape_letters)), (h_a1, .inl (cI, 51, .inl a1))] H → va_D A [(h_a0, .inr (7, [.ref h_a0_book, .ref h_a0_kept, .int a0_hasImage, .ref h_a0_tape, .ref h_a0_search, .ref h_a0_shade, .ref h_a0_sheets])), (h_a0_tape, .inr (5, [.ref h_a0_tape_letters, .int a0_tape_length, .int a0_tape_place, .ref h_a0_tape_told, .int a0_tape_lettersTold, .int a0_tape_restTold])), (h_a0_tape_letters, .inl (cC, 130, .inl a0_tape_letters)), (h_a1, .inl (cI, 51, .inl a1))] → va_S A s.heap H locs → lv_has ls 7 [(0, .ref h_a0), (1, .ref h_a1), (2, .int x2), (4, .int x4)] → W p l e rm_L_says s m [.ref h_a0, .ref h_a1, .int x2].toArray below meth c H locs 0 0 QQ (F0 m 144 ls []) := by
        intro x4 a0_tape_length a0_tape_letters H locs ls hf hP hD hS hl
        refine lv_iconst (v := (0 : Int32)) hx hb dL_says_144 (by decide) ?_
        exact L145 x4 a0_tape_length a0_tape_letters (0 : Int32) _ _ _ hf hP hD hS hl
      have L140 : ∀ (x4 : Int32) (a0_tape_length : Int32) (a0_tape_letters : Nat → Int32) (H : Heap) (locs : List Loc) (ls : Array Slot), p_L_says_140 a0_tape_length a0_tape_letters x4 K5 → va_P (dC, dI) vwCl [(h_a0, .inr (7, [.ref h_a0_book, .ref h_a0_kept, .int a0_hasImage, .ref h_a0_tape, .ref h_a0_search, .ref h_a0_shade, .ref h_a0_sheets])), (h_a0_tape, .inr (5, [.ref h_a0_tape_letters, .int a0_tape_length, .int a0_tape_place, .ref h_a0_tape_told, .int a0_tape_lettersTold, .int a0_tape_restTold])), (h_a0_tape_letters, .inl (cC, 130, .inl a0_tape_letters)), (h_a1, .inl (cI, 51, .inl a1))] H → va_D A [(h_a0, .inr (7, [.ref h_a0_book, .ref h_a0_kept, .int a0_hasImage, .ref h_a0_tape, .ref h_a0_search, .ref h_a0_shade, .ref h_a0_sheets])), (h_a0_tape, .inr (5, [.ref h_a0_tape_letters, .int a0_tape_length, .int a0_tape_place, .ref h_a0_tape_told, .int a0_tape_lettersTold, .int a0_tape_restTold])), (h_a0_tape_letters, .inl (cC, 130, .inl a0_tape_letters)), (h_a1, .inl (cI, 51, .inl a1))] → va_S A s.heap H locs → lv_has ls 7 [(0, .ref h_a0), (1, .ref h_a1), (2, .int x2), (4, .int x4)] → W p l e rm_L_says s m [.ref h_a0, .ref h_a1, .int x2].toArray below meth c H locs 0 0 QQ (F0 m 140 ls []) := by
        intro x4 a0_tape_length a0_tape_letters H locs ls hf hP hD hS hl
        refine lv_iconst (v := (1 : Int32)) hx hb dL_says_140 (by decide) ?_
        refine lv_goto (tgt := 145) hx hb dL_says_141 (by decide) ?_
        exact L145 x4 a0_tape_length a0_tape_letters (1 : Int32) _ _ _ hf hP hD hS hl
      have L122 : ∀ (x4 : Int32) (a0_tape_length : Int32) (a0_tape_letters : Nat → Int32) (H : Heap) (locs : List Loc) (ls : Array Slot), p_L_says_122 a0_tape_length a0_tape_letters x4 K5 → va_P (dC, dI) vwCl [(h_a0, .inr (7, [.ref h_a0_book, .ref h_a0_kept, .int a0_hasImage, .ref h_a0_tape, .ref h_a0_search, .ref h_a0_shade, .ref h_a0_sheets])), (h_a0_tape, .inr (5, [.ref h_a0_tape_letters, .int a0_tape_length, .int a0_tape_place, .ref h_a0_tape_told, .int a0_tape_lettersTold, .int a0_tape_restTold])), (h_a0_tape_letters, .inl (cC, 130, .inl a0_tape_letters)), (h_a1, .inl (cI, 51, .inl a1))] H → va_D A [(h_a0, .inr (7, [.ref h_a0_book, .ref h_a0_kept, .int a0_hasImage, .ref h_a0_tape, .ref h_a0_search, .ref h_a0_shade, .ref h_a0_sheets])), (h_a0_tape, .inr (5, [.ref h_a0_tape_letters, .int a0_tape_length, .int a0_tape_place, .ref h_a0_tape_told, .int a0_tape_lettersTold, .int a0_tape_restTold])), (h_a0_tape_letters, .inl (cC, 130, .inl a0_tape_letters)), (h_a1, .inl (cI, 51, .inl a1))] → va_S A s.heap H locs → lv_has ls 7 [(0, .ref h_a0), (1, .ref h_a1), (2, .int x2), (4, .int x4)] → W p l e rm_L_says s m [.ref h_a0, .ref h_a1, .int x2].toArray below meth c H locs 0 0 QQ (F0 m 122 ls []) := by
        intro x4 a0_tape_length a0_tape_letters H locs ls hf hP hD hS hl
        refine lv_iload hx hb dL_says_122 (lv_at hl 3 rfl) ?_
        refine lv_iconst (v := (4 : Int32)) hx hb dL_says_124 (by decide) ?_
        refine lv_icmp_eq (tgt := 140) hx hb dL_says_125 (by decide) (fun hc20 => ?_) (fun hc20 => ?_)
        · have hf := hf.1 hc20
          exact L140 x4 a0_tape_length a0_tape_letters _ _ _ hf hP hD hS hl
        · have hf := hf.2 hc20
          refine lv_aload_n hx hb dL_says_128 rfl (lv_at hl 0 rfl) ?_
          refine lv_bipush (v := (97 : Int32)) hx hb dL_says_129 (by decide) ?_
          refine lv_iload hx hb dL_says_131 (lv_at hl 3 rfl) ?_
          refine lv_iadd hx hb dL_says_133 ?_
          refine gz_i (W1 := (fun u : Int32 × (Nat → Int32) => [(h_a0, .inr (7, [.ref h_a0_book, .ref h_a0_kept, .int a0_hasImage, .ref h_a0_tape, .ref h_a0_search, .ref h_a0_shade, .ref h_a0_sheets])), (h_a0_tape, .inr (5, [.ref h_a0_tape_letters, .int u.1, .int a0_tape_place, .ref h_a0_tape_told, .int a0_tape_lettersTold, .int a0_tape_restTold])), (h_a0_tape_letters, .inl (cC, 130, .inl u.2))])) (wn := (fun u : Int32 × (Nat → Int32) => [(h_a0, .inr (7, [.ref h_a0_book, .ref h_a0_kept, .int a0_hasImage, .ref h_a0_tape, .ref h_a0_search, .ref h_a0_shade, .ref h_a0_sheets])), (h_a0_tape, .inr (5, [.ref h_a0_tape_letters, .int u.1, .int a0_tape_place, .ref h_a0_tape_told, .int a0_tape_lettersTold, .int a0_tape_restTold])), (h_a0_tape_letters, .inl (cC, 130, .inl u.2)), (h_a1, .inl (cI, 51, .inl a1))])) (wr := [(h_a1, .inl (cI, 51, .inl a1))]) (va_runV (As := [.int ((97 : Int32) + x4)]) (rest := []) ⟨hx, hb, hml, hown, hts⟩ (c_X10_type l dC dI cI cJ cC cZ h_a0 h_a0_book h_a0_kept h_a0_tape h_a0_search h_a0_shade h_a0_sheets h_a0_tape_letters h_a0_tape_told H.size a0_hasImage a0_tape_length a0_tape_place a0_tape_lettersTold a0_tape_restTold a0_tape_letters ((97 : Int32) + x4) _ hf) (cwV 1 hts gL_says_X10_type rfl rfl rfl (by decide +kernel) ⟨Nat.le_of_ble_eq_true rfl, Nat.le_of_ble_eq_true rfl⟩) ⟨gz_blind, va_recv hK hP (ci := 7) (q0 := 0) rfl rfl, gz_pre (gz_P_of hP (is := [0, 1, 2]) (wc := [(h_a0, .inr (7, [.ref h_a0_book, .ref h_a0_kept, .int a0_hasImage, .ref h_a0_tape, .ref h_a0_search, .ref h_a0_shade, .ref h_a0_sheets])), (h_a0_tape, .inr (5, [.ref h_a0_tape_letters, .int a0_tape_length, .int a0_tape_place, .ref h_a0_tape_told, .int a0_tape_lettersTold, .int a0_tape_restTold])), (h_a0_tape_letters, .inl (cC, 130, .inl a0_tape_letters))]) rfl) hK (hD.sub [0, 1, 2] (by decide) rfl) gz_N0⟩ rfl rfl hl.1 rfl (lv_room (Nat.le_of_ble_eq_true rfl)) dL_says_134 ⟨Nat.le_refl _, Nat.le_refl _⟩) hP hD hS hA [0, 1, 2] [3] [1, 2, 3, 0] rfl rfl (by decide) (by decide) (fun _ => rfl) (by decide) (fun r16 u H locs hf hP hD hS => ?_)
          obtain ⟨y17, y18⟩ := u
          have hP : va_P (dC, dI) vwCl [(h_a0, .inr (7, [.ref h_a0_book, .ref h_a0_kept, .int a0_hasImage, .ref h_a0_tape, .ref h_a0_search, .ref h_a0_shade, .ref h_a0_sheets])), (h_a0_tape, .inr (5, [.ref h_a0_tape_letters, .int y17, .int a0_tape_place, .ref h_a0_tape_told, .int a0_tape_lettersTold, .int a0_tape_restTold])), (h_a0_tape_letters, .inl (cC, 130, .inl y18)), (h_a1, .inl (cI, 51, .inl a1))] H := hP
          have hD : va_D A [(h_a0, .inr (7, [.ref h_a0_book, .ref h_a0_kept, .int a0_hasImage, .ref h_a0_tape, .ref h_a0_search, .ref h_a0_shade, .ref h_a0_sheets])), (h_a0_tape, .inr (5, [.ref h_a0_tape_letters, .int y17, .int a0_tape_place, .ref h_a0_tape_told, .int a0_tape_lettersTold, .int a0_tape_restTold])), (h_a0_tape_letters, .inl (cC, 130, .inl y18)), (h_a1, .inl (cI, 51, .inl a1))] := hD
          refine lv_if_le (tgt := 144) hx hb dL_says_137 (by decide) (fun hc19 => ?_) (fun hc19 => ?_)
          · have hf := hf.1 hc19
            exact L144 x4 y17 y18 _ _ _ hf hP hD hS hl
          · have hf := hf.2 hc19
            exact L140 x4 y17 y18 _ _ _ hf hP hD hS hl
      have L107 : ∀ (x4 : Int32) (x6 : Int32) (a0_tape_length : Int32) (a0_tape_letters : Nat → Int32) (H : Heap) (locs : List Loc) (ls : Array Slot), p_L_says_107 a0_tape_length a0_tape_letters x4 x6 K5 → va_P (dC, dI) vwCl [(h_a0, .inr (7, [.ref h_a0_book, .ref h_a0_kept, .int a0_hasImage, .ref h_a0_tape, .ref h_a0_search, .ref h_a0_shade, .ref h_a0_sheets])), (h_a0_tape, .inr (5, [.ref h_a0_tape_letters, .int a0_tape_length, .int a0_tape_place, .ref h_a0_tape_told, .int a0_tape_lettersTold, .int a0_tape_restTold])), (h_a0_tape_letters, .inl (cC, 130, .inl a0_tape_letters)), (h_a1, .inl (cI, 51, .inl a1))] H → va_D A [(h_a0, .inr (7, [.ref h_a0_book, .ref h_a0_kept, .int a0_hasImage, .ref h_a0_tape, .ref h_a0_search, .ref h_a0_shade, .ref h_a0_sheets])), (h_a0_tape, .inr (5, [.ref h_a0_tape_letters, .int a0_tape_length, .int a0_tape_place, .ref h_a0_tape_told, .int a0_tape_lettersTold, .int a0_tape_restTold])), (h_a0_tape_letters, .inl (cC, 130, .inl a0_tape_letters)), (h_a1, .inl (cI, 51, .inl a1))] → va_S A s.heap H locs → lv_has ls 7 [(0, .ref h_a0), (1, .ref h_a1), (2, .int x2), (4, .int x4), (6, .int x6)] → W p l e rm_L_says s m [.ref h_a0, .ref h_a1, .int x2].toArray below meth c H locs 0 0 QQ (F0 m 107 ls []) := by
        intro x4 x6 a0_tape_length a0_tape_letters H locs ls hf hP hD hS hl
        refine lv_aload_n hx hb dL_says_107 rfl (lv_at hl 0 rfl) ?_
        refine lv_bipush (v := (48 : Int32)) hx hb dL_says_108 (by decide) ?_
        refine lv_iload hx hb dL_says_110 (lv_at hl 4 rfl) ?_
        refine lv_bipush (v := (10 : Int32)) hx hb dL_says_112 (by decide) ?_
        refine lv_irem hx hb dL_says_114 (by decide) ?_
        refine lv_iadd hx hb dL_says_115 ?_
        refine gz_i (W1 := (fun u : Int32 × (Nat → Int32) => [(h_a0, .inr (7, [.ref h_a0_book, .ref h_a0_kept, .int a0_hasImage, .ref h_a0_tape, .ref h_a0_search, .ref h_a0_shade, .ref h_a0_sheets])), (h_a0_tape, .inr (5, [.ref h_a0_tape_letters, .int u.1, .int a0_tape_place, .ref h_a0_tape_told, .int a0_tape_lettersTold, .int a0_tape_restTold])), (h_a0_tape_letters, .inl (cC, 130, .inl u.2))])) (wn := (fun u : Int32 × (Nat → Int32) => [(h_a0, .inr (7, [.ref h_a0_book, .ref h_a0_kept, .int a0_hasImage, .ref h_a0_tape, .ref h_a0_search, .ref h_a0_shade, .ref h_a0_sheets])), (h_a0_tape, .inr (5, [.ref h_a0_tape_letters, .int u.1, .int a0_tape_place, .ref h_a0_tape_told, .int a0_tape_lettersTold, .int a0_tape_restTold])), (h_a0_tape_letters, .inl (cC, 130, .inl u.2)), (h_a1, .inl (cI, 51, .inl a1))])) (wr := [(h_a1, .inl (cI, 51, .inl a1))]) (va_runV (As := [.int ((48 : Int32) + (x6 - x6 / (10 : Int32) * (10 : Int32)))]) (rest := []) ⟨hx, hb, hml, hown, hts⟩ (c_X10_type l dC dI cI cJ cC cZ h_a0 h_a0_book h_a0_kept h_a0_tape h_a0_search h_a0_shade h_a0_sheets h_a0_tape_letters h_a0_tape_told H.size a0_hasImage a0_tape_length a0_tape_place a0_tape_lettersTold a0_tape_restTold a0_tape_letters ((48 : Int32) + (x6 - x6 / (10 : Int32) * (10 : Int32))) _ hf) (cwV 1 hts gL_says_X10_type rfl rfl rfl (by decide +kernel) ⟨Nat.le_of_ble_eq_true rfl, Nat.le_of_ble_eq_true rfl⟩) ⟨gz_blind, va_recv hK hP (ci := 7) (q0 := 0) rfl rfl, gz_pre (gz_P_of hP (is := [0, 1, 2]) (wc := [(h_a0, .inr (7, [.ref h_a0_book, .ref h_a0_kept, .int a0_hasImage, .ref h_a0_tape, .ref h_a0_search, .ref h_a0_shade, .ref h_a0_sheets])), (h_a0_tape, .inr (5, [.ref h_a0_tape_letters, .int a0_tape_length, .int a0_tape_place, .ref h_a0_tape_told, .int a0_tape_lettersTold, .int a0_tape_restTold])), (h_a0_tape_letters, .inl (cC, 130, .inl a0_tape_letters))]) rfl) hK (hD.sub [0, 1, 2] (by decide) rfl) gz_N0⟩ rfl rfl hl.1 rfl (lv_room (Nat.le_of_ble_eq_true rfl)) dL_says_116 ⟨Nat.le_refl _, Nat.le_refl _⟩) hP hD hS hA [0, 1, 2] [3] [1, 2, 3, 0] rfl rfl (by decide) (by decide) (fun _ => rfl) (by decide) (fun r13 u H locs hf hP hD hS => ?_)
        obtain ⟨y14, y15⟩ := u
        have hP : va_P (dC, dI) vwCl [(h_a0, .inr (7, [.ref h_a0_book, .ref h_a0_kept, .int a0_hasImage, .ref h_a0_tape, .ref h_a0_search, .ref h_a0_shade, .ref h_a0_sheets])), (h_a0_tape, .inr (5, [.ref h_a0_tape_letters, .int y14, .int a0_tape_place, .ref h_a0_tape_told, .int a0_tape_lettersTold, .int a0_tape_restTold])), (h_a0_tape_letters, .inl (cC, 130, .inl y15)), (h_a1, .inl (cI, 51, .inl a1))] H := hP
        have hD : va_D A [(h_a0, .inr (7, [.ref h_a0_book, .ref h_a0_kept, .int a0_hasImage, .ref h_a0_tape, .ref h_a0_search, .ref h_a0_shade, .ref h_a0_sheets])), (h_a0_tape, .inr (5, [.ref h_a0_tape_letters, .int y14, .int a0_tape_place, .ref h_a0_tape_told, .int a0_tape_lettersTold, .int a0_tape_restTold])), (h_a0_tape_letters, .inl (cC, 130, .inl y15)), (h_a1, .inl (cI, 51, .inl a1))] := hD
        refine lv_if_le (tgt := 144) hx hb dL_says_119 (by decide) (fun hc21 => ?_) (fun hc21 => ?_)
        · have hf := hf.1 hc21
          exact L144 x4 y14 y15 _ _ _ hf hP hD hS (lv_sub hl [0, 1, 2, 3] rfl)
        · have hf := hf.2 hc21
          exact L122 x4 y14 y15 _ _ _ hf hP hD hS (lv_sub hl [0, 1, 2, 3] rfl)
      have L95 : ∀ (x4 : Int32) (x6 : Int32) (a0_tape_length : Int32) (a0_tape_letters : Nat → Int32) (H : Heap) (locs : List Loc) (ls : Array Slot), p_L_says_95 a0_tape_length a0_tape_letters x4 x6 K5 → va_P (dC, dI) vwCl [(h_a0, .inr (7, [.ref h_a0_book, .ref h_a0_kept, .int a0_hasImage, .ref h_a0_tape, .ref h_a0_search, .ref h_a0_shade, .ref h_a0_sheets])), (h_a0_tape, .inr (5, [.ref h_a0_tape_letters, .int a0_tape_length, .int a0_tape_place, .ref h_a0_tape_told, .int a0_tape_lettersTold, .int a0_tape_restTold])), (h_a0_tape_letters, .inl (cC, 130, .inl a0_tape_letters)), (h_a1, .inl (cI, 51, .inl a1))] H → va_D A [(h_a0, .inr (7, [.ref h_a0_book, .ref h_a0_kept, .int a0_hasImage, .ref h_a0_tape, .ref h_a0_search, .ref h_a0_shade, .ref h_a0_sheets])), (h_a0_tape, .inr (5, [.ref h_a0_tape_letters, .int a0_tape_length, .int a0_tape_place, .ref h_a0_tape_told, .int a0_tape_lettersTold, .int a0_tape_restTold])), (h_a0_tape_letters, .inl (cC, 130, .inl a0_tape_letters)), (h_a1, .inl (cI, 51, .inl a1))] → va_S A s.heap H locs → lv_has ls 7 [(0, .ref h_a0), (1, .ref h_a1), (2, .int x2), (4, .int x4), (6, .int x6)] → W p l e rm_L_says s m [.ref h_a0, .ref h_a1, .int x2].toArray below meth c H locs 0 0 QQ (F0 m 95 ls []) := by
        intro x4 x6 a0_tape_length a0_tape_letters H locs ls hf hP hD hS hl
        refine lv_iload hx hb dL_says_95 (lv_at hl 3 rfl) ?_
        refine lv_iconst (v := (4 : Int32)) hx hb dL_says_97 (by decide) ?_
        refine lv_icmp_ge (tgt := 107) hx hb dL_says_98 (by decide) (fun hc23 => ?_) (fun hc23 => ?_)
        · have hf := hf.1 hc23
          exact L107 x4 x6 a0_tape_length a0_tape_letters _ _ _ hf hP hD hS hl
        · have hf := hf.2 hc23
          refine lv_iload hx hb dL_says_101 (lv_at hl 4 rfl) ?_
          refine lv_iconst (v := (1 : Int32)) hx hb dL_says_103 (by decide) ?_
          refine lv_icmp_eq (tgt := 122) hx hb dL_says_104 (by decide) (fun hc22 => ?_) (fun hc22 => ?_)
          · have hf := hf.1 hc22
            exact L122 x4 a0_tape_length a0_tape_letters _ _ _ hf hP hD hS (lv_sub hl [0, 1, 2, 3] rfl)
          · have hf := hf.2 hc22
            exact L107 x4 x6 a0_tape_length a0_tape_letters _ _ _ hf hP hD hS hl
      have L67 : ∀ (x4 : Int32) (x6 : Int32) (a0_tape_length : Int32) (a0_tape_letters : Nat → Int32) (s1 : Int32) (H : Heap) (locs : List Loc) (ls : Array Slot), p_L_says_67 a0_tape_length a0_tape_letters x4 x6 s1 K5 → va_P (dC, dI) vwCl [(h_a0, .inr (7, [.ref h_a0_book, .ref h_a0_kept, .int a0_hasImage, .ref h_a0_tape, .ref h_a0_search, .ref h_a0_shade, .ref h_a0_sheets])), (h_a0_tape, .inr (5, [.ref h_a0_tape_letters, .int a0_tape_length, .int a0_tape_place, .ref h_a0_tape_told, .int a0_tape_lettersTold, .int a0_tape_restTold])), (h_a0_tape_letters, .inl (cC, 130, .inl a0_tape_letters)), (h_a1, .inl (cI, 51, .inl a1))] H → va_D A [(h_a0, .inr (7, [.ref h_a0_book, .ref h_a0_kept, .int a0_hasImage, .ref h_a0_tape, .ref h_a0_search, .ref h_a0_shade, .ref h_a0_sheets])), (h_a0_tape, .inr (5, [.ref h_a0_tape_letters, .int a0_tape_length, .int a0_tape_place, .ref h_a0_tape_told, .int a0_tape_lettersTold, .int a0_tape_restTold])), (h_a0_tape_letters, .inl (cC, 130, .inl a0_tape_letters)), (h_a1, .inl (cI, 51, .inl a1))] → va_S A s.heap H locs → lv_has ls 7 [(0, .ref h_a0), (1, .ref h_a1), (2, .int x2), (4, .int x4), (6, .int x6)] → W p l e rm_L_says s m [.ref h_a0, .ref h_a1, .int x2].toArray below meth c H locs 0 0 QQ (F0 m 67 ls [.int s1, .ref h_a0]) := by
        intro x4 x6 a0_tape_length a0_tape_letters s1 H locs ls hf hP hD hS hl
        refine gz_i (W1 := (fun u : Int32 × (Nat → Int32) => [(h_a0, .inr (7, [.ref h_a0_book, .ref h_a0_kept, .int a0_hasImage, .ref h_a0_tape, .ref h_a0_search, .ref h_a0_shade, .ref h_a0_sheets])), (h_a0_tape, .inr (5, [.ref h_a0_tape_letters, .int u.1, .int a0_tape_place, .ref h_a0_tape_told, .int a0_tape_lettersTold, .int a0_tape_restTold])), (h_a0_tape_letters, .inl (cC, 130, .inl u.2))])) (wn := (fun u : Int32 × (Nat → Int32) => [(h_a0, .inr (7, [.ref h_a0_book, .ref h_a0_kept, .int a0_hasImage, .ref h_a0_tape, .ref h_a0_search, .ref h_a0_shade, .ref h_a0_sheets])), (h_a0_tape, .inr (5, [.ref h_a0_tape_letters, .int u.1, .int a0_tape_place, .ref h_a0_tape_told, .int a0_tape_lettersTold, .int a0_tape_restTold])), (h_a0_tape_letters, .inl (cC, 130, .inl u.2)), (h_a1, .inl (cI, 51, .inl a1))])) (wr := [(h_a1, .inl (cI, 51, .inl a1))]) (va_runV (As := [.int s1]) (rest := []) ⟨hx, hb, hml, hown, hts⟩ (c_X10_type l dC dI cI cJ cC cZ h_a0 h_a0_book h_a0_kept h_a0_tape h_a0_search h_a0_shade h_a0_sheets h_a0_tape_letters h_a0_tape_told H.size a0_hasImage a0_tape_length a0_tape_place a0_tape_lettersTold a0_tape_restTold a0_tape_letters s1 _ hf) (cwV 1 hts gL_says_X10_type rfl rfl rfl (by decide +kernel) ⟨Nat.le_of_ble_eq_true rfl, Nat.le_of_ble_eq_true rfl⟩) ⟨gz_blind, va_recv hK hP (ci := 7) (q0 := 0) rfl rfl, gz_pre (gz_P_of hP (is := [0, 1, 2]) (wc := [(h_a0, .inr (7, [.ref h_a0_book, .ref h_a0_kept, .int a0_hasImage, .ref h_a0_tape, .ref h_a0_search, .ref h_a0_shade, .ref h_a0_sheets])), (h_a0_tape, .inr (5, [.ref h_a0_tape_letters, .int a0_tape_length, .int a0_tape_place, .ref h_a0_tape_told, .int a0_tape_lettersTold, .int a0_tape_restTold])), (h_a0_tape_letters, .inl (cC, 130, .inl a0_tape_letters))]) rfl) hK (hD.sub [0, 1, 2] (by decide) rfl) gz_N0⟩ rfl rfl hl.1 rfl (lv_room (Nat.le_of_ble_eq_true rfl)) dL_says_67 ⟨Nat.le_refl _, Nat.le_refl _⟩) hP hD hS hA [0, 1, 2] [3] [1, 2, 3, 0] rfl rfl (by decide) (by decide) (fun _ => rfl) (by decide) (fun r10 u H locs hf hP hD hS => ?_)
        obtain ⟨y11, y12⟩ := u
        have hP : va_P (dC, dI) vwCl [(h_a0, .inr (7, [.ref h_a0_book, .ref h_a0_kept, .int a0_hasImage, .ref h_a0_tape, .ref h_a0_search, .ref h_a0_shade, .ref h_a0_sheets])), (h_a0_tape, .inr (5, [.ref h_a0_tape_letters, .int y11, .int a0_tape_place, .ref h_a0_tape_told, .int a0_tape_lettersTold, .int a0_tape_restTold])), (h_a0_tape_letters, .inl (cC, 130, .inl y12)), (h_a1, .inl (cI, 51, .inl a1))] H := hP
        have hD : va_D A [(h_a0, .inr (7, [.ref h_a0_book, .ref h_a0_kept, .int a0_hasImage, .ref h_a0_tape, .ref h_a0_search, .ref h_a0_shade, .ref h_a0_sheets])), (h_a0_tape, .inr (5, [.ref h_a0_tape_letters, .int y11, .int a0_tape_place, .ref h_a0_tape_told, .int a0_tape_lettersTold, .int a0_tape_restTold])), (h_a0_tape_letters, .inl (cC, 130, .inl y12)), (h_a1, .inl (cI, 51, .inl a1))] := hD
        refine lv_if_le (tgt := 144) hx hb dL_says_70 (by decide) (fun hc29 => ?_) (fun hc29 => ?_)
        · have hf := hf.1 hc29
          exact L144 x4 y11 y12 _ _ _ hf hP hD hS (lv_sub hl [0, 1, 2, 3] rfl)
        · have hf := hf.2 hc29
          refine lv_iload hx hb dL_says_73 (lv_at hl 4 rfl) ?_
          refine lv_bipush (v := (10 : Int32)) hx hb dL_says_75 (by decide) ?_
          refine lv_icmp_lt (tgt := 95) hx hb dL_says_77 (by decide) (fun hc28 => ?_) (fun hc28 => ?_)
          · have hf := hf.1 hc28
            exact L95 x4 x6 y11 y12 _ _ _ hf hP hD hS hl
          · have hf := hf.2 hc28
            refine lv_aload_n hx hb dL_says_80 rfl (lv_at hl 0 rfl) ?_
            refine lv_bipush (v := (48 : Int32)) hx hb dL_says_81 (by decide) ?_
            refine lv_iload hx hb dL_says_83 (lv_at hl 4 rfl) ?_
            refine lv_bipush (v := (10 : Int32)) hx hb dL_says_85 (by decide) ?_
            refine lv_idiv hx hb dL_says_87 (by decide) ?_
            refine lv_iadd hx hb dL_says_88 ?_
            refine gz_i (W1 := (fun u : Int32 × (Nat → Int32) => [(h_a0, .inr (7, [.ref h_a0_book, .ref h_a0_kept, .int a0_hasImage, .ref h_a0_tape, .ref h_a0_search, .ref h_a0_shade, .ref h_a0_sheets])), (h_a0_tape, .inr (5, [.ref h_a0_tape_letters, .int u.1, .int a0_tape_place, .ref h_a0_tape_told, .int a0_tape_lettersTold, .int a0_tape_restTold])), (h_a0_tape_letters, .inl (cC, 130, .inl u.2))])) (wn := (fun u : Int32 × (Nat → Int32) => [(h_a0, .inr (7, [.ref h_a0_book, .ref h_a0_kept, .int a0_hasImage, .ref h_a0_tape, .ref h_a0_search, .ref h_a0_shade, .ref h_a0_sheets])), (h_a0_tape, .inr (5, [.ref h_a0_tape_letters, .int u.1, .int a0_tape_place, .ref h_a0_tape_told, .int a0_tape_lettersTold, .int a0_tape_restTold])), (h_a0_tape_letters, .inl (cC, 130, .inl u.2)), (h_a1, .inl (cI, 51, .inl a1))])) (wr := [(h_a1, .inl (cI, 51, .inl a1))]) (va_runV (As := [.int ((48 : Int32) + (x6 / (10 : Int32)))]) (rest := []) ⟨hx, hb, hml, hown, hts⟩ (c_X10_type l dC dI cI cJ cC cZ h_a0 h_a0_book h_a0_kept h_a0_tape h_a0_search h_a0_shade h_a0_sheets h_a0_tape_letters h_a0_tape_told H.size a0_hasImage y11 a0_tape_place a0_tape_lettersTold a0_tape_restTold y12 ((48 : Int32) + (x6 / (10 : Int32))) _ hf) (cwV 1 hts gL_says_X10_type rfl rfl rfl (by decide +kernel) ⟨Nat.le_of_ble_eq_true rfl, Nat.le_of_ble_eq_true rfl⟩) ⟨gz_blind, va_recv hK hP (ci := 7) (q0 := 0) rfl rfl, gz_pre (gz_P_of hP (is := [0, 1, 2]) (wc := [(h_a0, .inr (7, [.ref h_a0_book, .ref h_a0_kept, .int a0_hasImage, .ref h_a0_tape, .ref h_a0_search, .ref h_a0_shade, .ref h_a0_sheets])), (h_a0_tape, .inr (5, [.ref h_a0_tape_letters, .int y11, .int a0_tape_place, .ref h_a0_tape_told, .int a0_tape_lettersTold, .int a0_tape_restTold])), (h_a0_tape_letters, .inl (cC, 130, .inl y12))]) rfl) hK (hD.sub [0, 1, 2] (by decide) rfl) gz_N0⟩ rfl rfl hl.1 rfl (lv_room (Nat.le_of_ble_eq_true rfl)) dL_says_89 ⟨Nat.le_refl _, Nat.le_refl _⟩) hP hD hS hA [0, 1, 2] [3] [1, 2, 3, 0] rfl rfl (by decide) (by decide) (fun _ => rfl) (by decide) (fun r24 u H locs hf hP hD hS => ?_)
            obtain ⟨y25, y26⟩ := u
            have hP : va_P (dC, dI) vwCl [(h_a0, .inr (7, [.ref h_a0_book, .ref h_a0_kept, .int a0_hasImage, .ref h_a0_tape, .ref h_a0_search, .ref h_a0_shade, .ref h_a0_sheets])), (h_a0_tape, .inr (5, [.ref h_a0_tape_letters, .int y25, .int a0_tape_place, .ref h_a0_tape_told, .int a0_tape_lettersTold, .int a0_tape_restTold])), (h_a0_tape_letters, .inl (cC, 130, .inl y26)), (h_a1, .inl (cI, 51, .inl a1))] H := hP
            have hD : va_D A [(h_a0, .inr (7, [.ref h_a0_book, .ref h_a0_kept, .int a0_hasImage, .ref h_a0_tape, .ref h_a0_search, .ref h_a0_shade, .ref h_a0_sheets])), (h_a0_tape, .inr (5, [.ref h_a0_tape_letters, .int y25, .int a0_tape_place, .ref h_a0_tape_told, .int a0_tape_lettersTold, .int a0_tape_restTold])), (h_a0_tape_letters, .inl (cC, 130, .inl y26)), (h_a1, .inl (cI, 51, .inl a1))] := hD
            refine lv_if_le (tgt := 144) hx hb dL_says_92 (by decide) (fun hc27 => ?_) (fun hc27 => ?_)
            · have hf := hf.1 hc27
              exact L144 x4 y25 y26 _ _ _ hf hP hD hS (lv_sub hl [0, 1, 2, 3] rfl)
            · have hf := hf.2 hc27
              exact L95 x4 x6 y25 y26 _ _ _ hf hP hD hS hl
      have L54 : ∀ (x4 : Int32) (x5 : Int32) (x6 : Int32) (a0_tape_length : Int32) (a0_tape_letters : Nat → Int32) (H : Heap) (locs : List Loc) (ls : Array Slot), p_L_says_54 a0_tape_length a0_tape_letters x4 x5 x6 K5 → va_P (dC, dI) vwCl [(h_a0, .inr (7, [.ref h_a0_book, .ref h_a0_kept, .int a0_hasImage, .ref h_a0_tape, .ref h_a0_search, .ref h_a0_shade, .ref h_a0_sheets])), (h_a0_tape, .inr (5, [.ref h_a0_tape_letters, .int a0_tape_length, .int a0_tape_place, .ref h_a0_tape_told, .int a0_tape_lettersTold, .int a0_tape_restTold])), (h_a0_tape_letters, .inl (cC, 130, .inl a0_tape_letters)), (h_a1, .inl (cI, 51, .inl a1))] H → va_D A [(h_a0, .inr (7, [.ref h_a0_book, .ref h_a0_kept, .int a0_hasImage, .ref h_a0_tape, .ref h_a0_search, .ref h_a0_shade, .ref h_a0_sheets])), (h_a0_tape, .inr (5, [.ref h_a0_tape_letters, .int a0_tape_length, .int a0_tape_place, .ref h_a0_tape_told, .int a0_tape_lettersTold, .int a0_tape_restTold])), (h_a0_tape_letters, .inl (cC, 130, .inl a0_tape_letters)), (h_a1, .inl (cI, 51, .inl a1))] → va_S A s.heap H locs → lv_has ls 7 [(0, .ref h_a0), (1, .ref h_a1), (2, .int x2), (4, .int x4), (5, .int x5), (6, .int x6)] → W p l e rm_L_says s m [.ref h_a0, .ref h_a1, .int x2].toArray below meth c H locs 0 0 QQ (F0 m 54 ls []) := by
        intro x4 x5 x6 a0_tape_length a0_tape_letters H locs ls hf hP hD hS hl
        refine lv_aload_n hx hb dL_says_54 rfl (lv_at hl 0 rfl) ?_
        refine lv_iload hx hb dL_says_55 (lv_at hl 4 rfl) ?_
        refine lv_if_ge (tgt := 65) hx hb dL_says_57 (by decide) (fun hc30 => ?_) (fun hc30 => ?_)
        · have hf := hf.1 hc30
          refine lv_bipush (v := (43 : Int32)) hx hb dL_says_65 (by decide) ?_
          exact L67 x4 x6 a0_tape_length a0_tape_letters (43 : Int32) _ _ _ hf hP hD hS (lv_sub hl [0, 1, 2, 3, 5] rfl)
        · have hf := hf.2 hc30
          refine lv_bipush (v := (45 : Int32)) hx hb dL_says_60 (by decide) ?_
          refine lv_goto (tgt := 67) hx hb dL_says_62 (by decide) ?_
          exact L67 x4 x6 a0_tape_length a0_tape_letters (45 : Int32) _ _ _ hf hP hD hS (lv_sub hl [0, 1, 2, 3, 5] rfl)
      have L41 : ∀ (x3 : Int32) (x4 : Int32) (x5 : Int32) (a0_tape_length : Int32) (a0_tape_letters : Nat → Int32) (s0 : Int32) (H : Heap) (locs : List Loc) (ls : Array Slot), p_L_says_41 a0_tape_length a0_tape_letters x3 x4 x5 s0 K5 → va_P (dC, dI) vwCl [(h_a0, .inr (7, [.ref h_a0_book, .ref h_a0_kept, .int a0_hasImage, .ref h_a0_tape, .ref h_a0_search, .ref h_a0_shade, .ref h_a0_sheets])), (h_a0_tape, .inr (5, [.ref h_a0_tape_letters, .int a0_tape_length, .int a0_tape_place, .ref h_a0_tape_told, .int a0_tape_lettersTold, .int a0_tape_restTold])), (h_a0_tape_letters, .inl (cC, 130, .inl a0_tape_letters)), (h_a1, .inl (cI, 51, .inl a1))] H → va_D A [(h_a0, .inr (7, [.ref h_a0_book, .ref h_a0_kept, .int a0_hasImage, .ref h_a0_tape, .ref h_a0_search, .ref h_a0_shade, .ref h_a0_sheets])), (h_a0_tape, .inr (5, [.ref h_a0_tape_letters, .int a0_tape_length, .int a0_tape_place, .ref h_a0_tape_told, .int a0_tape_lettersTold, .int a0_tape_restTold])), (h_a0_tape_letters, .inl (cC, 130, .inl a0_tape_letters)), (h_a1, .inl (cI, 51, .inl a1))] → va_S A s.heap H locs → lv_has ls 7 [(0, .ref h_a0), (1, .ref h_a1), (2, .int x2), (3, .int x3), (4, .int x4), (5, .int x5)] → W p l e rm_L_says s m [.ref h_a0, .ref h_a1, .int x2].toArray below meth c H locs 0 0 QQ (F0 m 41 ls [.int s0]) := by
        intro x3 x4 x5 a0_tape_length a0_tape_letters s0 H locs ls hf hP hD hS hl
        refine lv_istore (lv' := [(6, .int s0), (0, .ref h_a0), (1, .ref h_a1), (2, .int x2), (3, .int x3), (4, .int x4), (5, .int x5)]) hx hb dL_says_41 hl (by decide) rfl (fun ls hl => ?_)
        refine lv_iload hx hb dL_says_43 (lv_at hl 6 rfl) ?_
        refine lv_if_ne (tgt := 54) hx hb dL_says_45 (by decide) (fun hc32 => ?_) (fun hc32 => ?_)
        · have hf := hf.2 hc32
          exact L54 x4 x5 s0 a0_tape_length a0_tape_letters _ _ _ hf hP hD hS (lv_sub hl [1, 2, 3, 5, 6, 0] rfl)
        · have hf := hf.1 hc32
          refine lv_iload hx hb dL_says_48 (lv_at hl 5 rfl) ?_
          refine lv_iconst (v := (4 : Int32)) hx hb dL_says_50 (by decide) ?_
          refine lv_icmp_ne (tgt := 146) hx hb dL_says_51 (by decide) (fun hc31 => ?_) (fun hc31 => ?_)
          · have hf := hf.2 hc31
            exact L146 x3 x4 a0_tape_length a0_tape_letters _ _ _ hf hP hD hS (lv_sub hl [1, 2, 3, 4, 5] rfl)
          · have hf := hf.1 hc31
            exact L54 x4 x5 s0 a0_tape_length a0_tape_letters _ _ _ hf hP hD hS (lv_sub hl [1, 2, 3, 5, 6, 0] rfl)
      intro x3 x4 a0_tape_length a0_tape_letters H locs ls hf hP hD hS hl
      have hf : p_L_says_5 a1 x2 Q (gi4 (p_L_says_5 a1 x2 Q) n) x3 x4 a0_tape_length a0_tape_letters := hf
      rw [hK5] at hf
      refine lv_iload hx hb dL_says_5 (lv_at hl 4 rfl) ?_
      refine lv_iconst (v := (5 : Int32)) hx hb dL_says_7 (by decide) ?_
      refine lv_icmp_ge (tgt := 152) hx hb dL_says_8 (by decide) (fun hc35 => ?_) (fun hc35 => ?_)
      · have hf := hf.1 hc35
        exact L152 x3 a0_tape_length a0_tape_letters _ _ _ hf hP hD hS (lv_sub hl [0, 1, 2, 3] rfl)
      · have hf := hf.2 hc35
        refine lv_iload_n hx hb dL_says_11 rfl (lv_at hl 3 rfl) ?_
        refine lv_if_eq (tgt := 152) hx hb dL_says_12 (by decide) (fun hc34 => ?_) (fun hc34 => ?_)
        · have hf := hf.1 hc34
          exact L152 x3 a0_tape_length a0_tape_letters _ _ _ hf hP hD hS (lv_sub hl [0, 1, 2, 3] rfl)
        · have hf := hf.2 hc34
          refine lv_aload_n hx hb dL_says_15 rfl (lv_at hl 1 rfl) ?_
          refine lv_iconst (v := (3 : Int32)) hx hb dL_says_16 (by decide) ?_
          refine lv_bipush (v := (6 : Int32)) hx hb dL_says_17 (by decide) ?_
          refine lv_iload_n hx hb dL_says_19 rfl (lv_at hl 2 rfl) ?_
          refine lv_imul hx hb dL_says_20 ?_
          refine lv_iadd hx hb dL_says_21 ?_
          refine lv_iload hx hb dL_says_22 (lv_at hl 4 rfl) ?_
          refine lv_iadd hx hb dL_says_24 ?_
          obtain ⟨hb8, hf⟩ := hf
          refine va_iald hx hb hK hP 3 0 rfl rfl hb8 dL_says_25 ?_
          refine lv_topi (fun z9 ez9 => ?_)
          have hf := hf z9 ez9
          refine lv_istore (lv' := [(5, .int z9), (0, .ref h_a0), (1, .ref h_a1), (2, .int x2), (3, .int x3), (4, .int x4)]) hx hb dL_says_26 hl (by decide) rfl (fun ls hl => ?_)
          refine lv_iload hx hb dL_says_28 (lv_at hl 0 rfl) ?_
          refine lv_if_ge (tgt := 39) hx hb dL_says_30 (by decide) (fun hc33 => ?_) (fun hc33 => ?_)
          · have hf := hf.1 hc33
            refine lv_iload hx hb dL_says_39 (lv_at hl 0 rfl) ?_
            exact L41 x3 x4 z9 a0_tape_length a0_tape_letters z9 _ _ _ hf hP hD hS (lv_sub hl [1, 2, 3, 4, 5, 0] rfl)
          · have hf := hf.2 hc33
            refine lv_iload hx hb dL_says_33 (lv_at hl 0 rfl) ?_
            refine lv_ineg hx hb dL_says_35 ?_
            refine lv_goto (tgt := 41) hx hb dL_says_36 (by decide) ?_
            exact L41 x3 x4 z9 a0_tape_length a0_tape_letters (-z9) _ _ _ hf hP hD hS (lv_sub hl [1, 2, 3, 4, 5, 0] rfl)
  have hf := hw
  refine lv_iconst (v := (1 : Int32)) hx hb dL_says_0 (by decide) ?_
  refine lv_istore_n (lv' := [(3, .int (1 : Int32)), (0, .ref h_a0), (1, .ref h_a1), (2, .int x2)]) hx hb dL_says_1 rfl hl (by decide) rfl (fun ls hl => ?_)
  refine lv_iconst (v := (0 : Int32)) hx hb dL_says_2 (by decide) ?_
  refine lv_istore (lv' := [(4, .int (0 : Int32)), (3, .int (1 : Int32)), (0, .ref h_a0), (1, .ref h_a1), (2, .int x2)]) hx hb dL_says_3 hl (by decide) rfl (fun ls hl => ?_)
  obtain ⟨n, hf⟩ := hf
  exact L5  n (1 : Int32) (0 : Int32) a0_tape_length a0_tape_letters _ _ _ hf hP hD hS (lv_sub hl [2, 3, 4, 1, 0] rfl)
abbrev rm_L_lays : Room := { frames := 6, cells := 0, slots := 0, locals := 136 }
set_option maxHeartbeats 4000000 in
set_option maxRecDepth 100000 in
theorem c_L_lays (l : Launch) (dC : Nat → ClassId) (dI : Nat → Nat → Nat) (cI cJ cC cZ : ClassId) (h_a0 h_a0_book h_a0_kept h_a0_tape h_a0_search h_a0_shade h_a0_sheets h_a0_book_now h_a0_book_past h_a0_book_now_cells h_a0_tape_letters h_a0_tape_told h_a0_tape_told_cells h_a1 : Nat) (sz : Nat) (a0_hasImage : Int32) (a0_book_known : Int32) (a0_book_now_size : Int32) (a0_book_now_most : Int32) (a0_book_now_draw : Int32) (a0_book_now_changes : Int32) (a0_book_now_cells : Nat → Int32) (a0_tape_length : Int32) (a0_tape_place : Int32) (a0_tape_lettersTold : Int32) (a0_tape_restTold : Int32) (a0_tape_letters : Nat → Int32) (a0_tape_told_size : Int32) (a0_tape_told_most : Int32) (a0_tape_told_draw : Int32) (a0_tape_told_changes : Int32) (a0_tape_told_cells : Nat → Int32) (a1 : Nat → Int32) (Q : Int32 → Int32 → Int32 → Int32 → Int32 → Int32 → (Nat → Int32) → Int32 → Int32 → Int32 → Int32 → (Nat → Int32) → Int32 → Int32 → Int32 → (Nat → Int32) → Prop) (hw : p_L_lays a0_book_known a0_book_now_size a0_book_now_most a0_book_now_draw a0_book_now_changes a0_book_now_cells a0_tape_length a0_tape_place a0_tape_lettersTold a0_tape_restTold a0_tape_letters a0_tape_told_size a0_tape_told_most a0_tape_told_draw a0_tape_told_changes a0_tape_told_cells a1 Q) : Met l yL_lays wsL_lays rm_L_lays (va_Pc [.ref h_a0, .ref h_a1] (gz_B (dC, dI) (gz_T cI cJ cC cZ) [(RX8, 36, yX10_outside, "DarkShadows")] sz [(h_a0, .inr (7, [.ref h_a0_book, .ref h_a0_kept, .int a0_hasImage, .ref h_a0_tape, .ref h_a0_search, .ref h_a0_shade, .ref h_a0_sheets])), (h_a0_book, .inr (0, [.ref h_a0_book_now, .ref h_a0_book_past, .int a0_book_known])), (h_a0_book_now, .inr (6, [.ref h_a0_book_now_cells, .int a0_book_now_size, .int a0_book_now_most, .int a0_book_now_draw, .int a0_book_now_changes])), (h_a0_book_now_cells, .inl (cI, 48, .inl a0_book_now_cells)), (h_a0_tape, .inr (5, [.ref h_a0_tape_letters, .int a0_tape_length, .int a0_tape_place, .ref h_a0_tape_told, .int a0_tape_lettersTold, .int a0_tape_restTold])), (h_a0_tape_letters, .inl (cC, 130, .inl a0_tape_letters)), (h_a0_tape_told, .inr (6, [.ref h_a0_tape_told_cells, .int a0_tape_told_size, .int a0_tape_told_most, .int a0_tape_told_draw, .int a0_tape_told_changes])), (h_a0_tape_told_cells, .inl (cI, 48, .inl a0_tape_told_cells)), (h_a1, .inl (cI, 51, .inl a1))])) (va_Qi (fun (r : Int32) (u : Int32 × Int32 × Int32 × Int32 × Int32 × (Nat → Int32) × Int32 × Int32 × Int32 × Int32 × (Nat → Int32) × Int32 × Int32 × Int32 × (Nat → Int32)) => Q r u.1 u.2.1 u.2.2.1 u.2.2.2.1 u.2.2.2.2.1 u.2.2.2.2.2.1 u.2.2.2.2.2.2.1 u.2.2.2.2.2.2.2.1 u.2.2.2.2.2.2.2.2.1 u.2.2.2.2.2.2.2.2.2.1 u.2.2.2.2.2.2.2.2.2.2.1 u.2.2.2.2.2.2.2.2.2.2.2.1 u.2.2.2.2.2.2.2.2.2.2.2.2.1 u.2.2.2.2.2.2.2.2.2.2.2.2.2.1 u.2.2.2.2.2.2.2.2.2.2.2.2.2.2) (fun u t => gz_E (dC, dI) (gz_T cI cJ cC cZ) (va_A [(h_a0, .inr (7, [.ref h_a0_book, .ref h_a0_kept, .int a0_hasImage, .ref h_a0_tape, .ref h_a0_search, .ref h_a0_shade, .ref h_a0_sheets])), (h_a0_book, .inr (0, [.ref h_a0_book_now, .ref h_a0_book_past, .int a0_book_known])), (h_a0_book_now, .inr (6, [.ref h_a0_book_now_cells, .int a0_book_now_size, .int a0_book_now_most, .int a0_book_now_draw, .int a0_book_now_changes])), (h_a0_book_now_cells, .inl (cI, 48, .inl a0_book_now_cells)), (h_a0_tape, .inr (5, [.ref h_a0_tape_letters, .int a0_tape_length, .int a0_tape_place, .ref h_a0_tape_told, .int a0_tape_lettersTold, .int a0_tape_restTold])), (h_a0_tape_letters, .inl (cC, 130, .inl a0_tape_letters)), (h_a0_tape_told, .inr (6, [.ref h_a0_tape_told_cells, .int a0_tape_told_size, .int a0_tape_told_most, .int a0_tape_told_draw, .int a0_tape_told_changes])), (h_a0_tape_told_cells, .inl (cI, 48, .inl a0_tape_told_cells)), (h_a1, .inl (cI, 51, .inl a1))] sz) [(h_a0, .inr (7, [.ref h_a0_book, .ref h_a0_kept, .int a0_hasImage, .ref h_a0_tape, .ref h_a0_search, .ref h_a0_shade, .ref h_a0_sheets])), (h_a0_book, .inr (0, [.ref h_a0_book_now, .ref h_a0_book_past, .int u.1])), (h_a0_book_now, .inr (6, [.ref h_a0_book_now_cells, .int u.2.1, .int u.2.2.1, .int u.2.2.2.1, .int u.2.2.2.2.1])), (h_a0_book_now_cells, .inl (cI, 48, .inl u.2.2.2.2.2.1)), (h_a0_tape, .inr (5, [.ref h_a0_tape_letters, .int u.2.2.2.2.2.2.1, .int u.2.2.2.2.2.2.2.1, .ref h_a0_tape_told, .int u.2.2.2.2.2.2.2.2.1, .int u.2.2.2.2.2.2.2.2.2.1])), (h_a0_tape_letters, .inl (cC, 130, .inl u.2.2.2.2.2.2.2.2.2.2.1)), (h_a0_tape_told, .inr (6, [.ref h_a0_tape_told_cells, .int u.2.2.2.2.2.2.2.2.2.2.2.1, .int u.2.2.2.2.2.2.2.2.2.2.2.2.1, .int a0_tape_told_draw, .int u.2.2.2.2.2.2.2.2.2.2.2.2.2.1])), (h_a0_tape_told_cells, .inl (cI, 48, .inl u.2.2.2.2.2.2.2.2.2.2.2.2.2.2)), (h_a1, .inl (cI, 51, .inl a1))] t) (va_A [(h_a0, .inr (7, [.ref h_a0_book, .ref h_a0_kept, .int a0_hasImage, .ref h_a0_tape, .ref h_a0_search, .ref h_a0_shade, .ref h_a0_sheets])), (h_a0_book, .inr (0, [.ref h_a0_book_now, .ref h_a0_book_past, .int a0_book_known])), (h_a0_book_now, .inr (6, [.ref h_a0_book_now_cells, .int a0_book_now_size, .int a0_book_now_most, .int a0_book_now_draw, .int a0_book_now_changes])), (h_a0_book_now_cells, .inl (cI, 48, .inl a0_book_now_cells)), (h_a0_tape, .inr (5, [.ref h_a0_tape_letters, .int a0_tape_length, .int a0_tape_place, .ref h_a0_tape_told, .int a0_tape_lettersTold, .int a0_tape_restTold])), (h_a0_tape_letters, .inl (cC, 130, .inl a0_tape_letters)), (h_a0_tape_told, .inr (6, [.ref h_a0_tape_told_cells, .int a0_tape_told_size, .int a0_tape_told_most, .int a0_tape_told_draw, .int a0_tape_told_changes])), (h_a0_tape_told_cells, .inl (cI, 48, .inl a0_tape_told_cells)), (h_a1, .inl (cI, 51, .inl a1))] sz)) 0 0 (va_A [(h_a0, .inr (7, [.ref h_a0_book, .ref h_a0_kept, .int a0_hasImage, .ref h_a0_tape, .ref h_a0_search, .ref h_a0_shade, .ref h_a0_sheets])), (h_a0_book, .inr (0, [.ref h_a0_book_now, .ref h_a0_book_past, .int a0_book_known])), (h_a0_book_now, .inr (6, [.ref h_a0_book_now_cells, .int a0_book_now_size, .int a0_book_now_most, .int a0_book_now_draw, .int a0_book_now_changes])), (h_a0_book_now_cells, .inl (cI, 48, .inl a0_book_now_cells)), (h_a0_tape, .inr (5, [.ref h_a0_tape_letters, .int a0_tape_length, .int a0_tape_place, .ref h_a0_tape_told, .int a0_tape_lettersTold, .int a0_tape_restTold])), (h_a0_tape_letters, .inl (cC, 130, .inl a0_tape_letters)), (h_a0_tape_told, .inr (6, [.ref h_a0_tape_told_cells, .int a0_tape_told_size, .int a0_tape_told_most, .int a0_tape_told_draw, .int a0_tape_told_changes])), (h_a0_tape_told_cells, .inl (cI, 48, .inl a0_tape_told_cells)), (h_a1, .inl (cI, 51, .inl a1))] sz) := by
  refine gz_mz (cc := cL_lays) (maxL := 4) (plainFor_of_name (by decide +kernel)) rfl (Nat.le_of_ble_eq_true rfl) ?_
  intro p e s m below meth c A QQ ls hx hb hml hown0 hts hK hN hA hP hD hS hl ret
  have hown : s.vm.findClass RL = some m.cls := hown0
  have hl : lv_has ls 4 [(0, .ref h_a0), (1, .ref h_a1)] := hl
  have L62 : ∀ (x2 : Int32) (a0_book_known : Int32) (a0_book_now_size : Int32) (a0_book_now_most : Int32) (a0_book_now_draw : Int32) (a0_book_now_changes : Int32) (a0_book_now_cells : Nat → Int32) (a0_tape_length : Int32) (a0_tape_place : Int32) (a0_tape_lettersTold : Int32) (a0_tape_restTold : Int32) (a0_tape_letters : Nat → Int32) (a0_tape_told_size : Int32) (a0_tape_told_most : Int32) (a0_tape_told_changes : Int32) (a0_tape_told_cells : Nat → Int32) (H : Heap) (locs : List Loc) (ls : Array Slot), p_L_lays_62 a0_book_known a0_book_now_size a0_book_now_most a0_book_now_draw a0_book_now_changes a0_book_now_cells a0_tape_length a0_tape_place a0_tape_lettersTold a0_tape_restTold a0_tape_letters a0_tape_told_size a0_tape_told_most a0_tape_told_draw a0_tape_told_changes a0_tape_told_cells a1 x2 Q → va_P (dC, dI) vwCl [(h_a0, .inr (7, [.ref h_a0_book, .ref h_a0_kept, .int a0_hasImage, .ref h_a0_tape, .ref h_a0_search, .ref h_a0_shade, .ref h_a0_sheets])), (h_a0_book, .inr (0, [.ref h_a0_book_now, .ref h_a0_book_past, .int a0_book_known])), (h_a0_book_now, .inr (6, [.ref h_a0_book_now_cells, .int a0_book_now_size, .int a0_book_now_most, .int a0_book_now_draw, .int a0_book_now_changes])), (h_a0_book_now_cells, .inl (cI, 48, .inl a0_book_now_cells)), (h_a0_tape, .inr (5, [.ref h_a0_tape_letters, .int a0_tape_length, .int a0_tape_place, .ref h_a0_tape_told, .int a0_tape_lettersTold, .int a0_tape_restTold])), (h_a0_tape_letters, .inl (cC, 130, .inl a0_tape_letters)), (h_a0_tape_told, .inr (6, [.ref h_a0_tape_told_cells, .int a0_tape_told_size, .int a0_tape_told_most, .int a0_tape_told_draw, .int a0_tape_told_changes])), (h_a0_tape_told_cells, .inl (cI, 48, .inl a0_tape_told_cells)), (h_a1, .inl (cI, 51, .inl a1))] H → va_D A [(h_a0, .inr (7, [.ref h_a0_book, .ref h_a0_kept, .int a0_hasImage, .ref h_a0_tape, .ref h_a0_search, .ref h_a0_shade, .ref h_a0_sheets])), (h_a0_book, .inr (0, [.ref h_a0_book_now, .ref h_a0_book_past, .int a0_book_known])), (h_a0_book_now, .inr (6, [.ref h_a0_book_now_cells, .int a0_book_now_size, .int a0_book_now_most, .int a0_book_now_draw, .int a0_book_now_changes])), (h_a0_book_now_cells, .inl (cI, 48, .inl a0_book_now_cells)), (h_a0_tape, .inr (5, [.ref h_a0_tape_letters, .int a0_tape_length, .int a0_tape_place, .ref h_a0_tape_told, .int a0_tape_lettersTold, .int a0_tape_restTold])), (h_a0_tape_letters, .inl (cC, 130, .inl a0_tape_letters)), (h_a0_tape_told, .inr (6, [.ref h_a0_tape_told_cells, .int a0_tape_told_size, .int a0_tape_told_most, .int a0_tape_told_draw, .int a0_tape_told_changes])), (h_a0_tape_told_cells, .inl (cI, 48, .inl a0_tape_told_cells)), (h_a1, .inl (cI, 51, .inl a1))] → va_S A s.heap H locs → lv_has ls 4 [(0, .ref h_a0), (1, .ref h_a1), (2, .int x2)] → W p l e rm_L_lays s m [.ref h_a0, .ref h_a1].toArray below meth c H locs 0 0 QQ (F0 m 62 ls []) := by
    intro x2 a0_book_known a0_book_now_size a0_book_now_most a0_book_now_draw a0_book_now_changes a0_book_now_cells a0_tape_length a0_tape_place a0_tape_lettersTold a0_tape_restTold a0_tape_letters a0_tape_told_size a0_tape_told_most a0_tape_told_changes a0_tape_told_cells H locs ls hf hP hD hS hl
    refine lv_iload_n hx hb dL_lays_62 rfl (lv_at hl 2 rfl) ?_
    refine lv_if_eq (tgt := 80) hx hb dL_lays_63 (by decide) (fun hc23 => ?_) (fun hc23 => ?_)
    · have hf := hf.1 hc23
      refine lv_iconst (v := (0 : Int32)) hx hb dL_lays_80 (by decide) ?_
      exact ret _ _ _ _ (0 : Int32) (a0_book_known, a0_book_now_size, a0_book_now_most, a0_book_now_draw, a0_book_now_changes, a0_book_now_cells, a0_tape_length, a0_tape_place, a0_tape_lettersTold, a0_tape_restTold, a0_tape_letters, a0_tape_told_size, a0_tape_told_most, a0_tape_told_changes, a0_tape_told_cells) rfl hf hP hD hS dL_lays_81
    · have hf := hf.2 hc23
      refine lv_aload_n hx hb dL_lays_66 rfl (lv_at hl 0 rfl) ?_
      refine gz_i (W1 := (fun u : Int32 × Int32 × Int32 × Int32 × Int32 × (Nat → Int32) × Int32 × Int32 × Int32 × Int32 × Int32 × Int32 × Int32 × (Nat → Int32) => [(h_a0, .inr (7, [.ref h_a0_book, .ref h_a0_kept, .int a0_hasImage, .ref h_a0_tape, .ref h_a0_search, .ref h_a0_shade, .ref h_a0_sheets])), (h_a0_book, .inr (0, [.ref h_a0_book_now, .ref h_a0_book_past, .int u.1])), (h_a0_book_now, .inr (6, [.ref h_a0_book_now_cells, .int u.2.1, .int u.2.2.1, .int u.2.2.2.1, .int u.2.2.2.2.1])), (h_a0_book_now_cells, .inl (cI, 48, .inl u.2.2.2.2.2.1)), (h_a0_tape, .inr (5, [.ref h_a0_tape_letters, .int u.2.2.2.2.2.2.1, .int u.2.2.2.2.2.2.2.1, .ref h_a0_tape_told, .int u.2.2.2.2.2.2.2.2.1, .int u.2.2.2.2.2.2.2.2.2.1])), (h_a0_tape_letters, .inl (cC, 130, .inl a0_tape_letters)), (h_a0_tape_told, .inr (6, [.ref h_a0_tape_told_cells, .int u.2.2.2.2.2.2.2.2.2.2.1, .int u.2.2.2.2.2.2.2.2.2.2.2.1, .int a0_tape_told_draw, .int u.2.2.2.2.2.2.2.2.2.2.2.2.1])), (h_a0_tape_told_cells, .inl (cI, 48, .inl u.2.2.2.2.2.2.2.2.2.2.2.2.2))])) (wn := (fun u : Int32 × Int32 × Int32 × Int32 × Int32 × (Nat → Int32) × Int32 × Int32 × Int32 × Int32 × Int32 × Int32 × Int32 × (Nat → Int32) => [(h_a0, .inr (7, [.ref h_a0_book, .ref h_a0_kept, .int a0_hasImage, .ref h_a0_tape, .ref h_a0_search, .ref h_a0_shade, .ref h_a0_sheets])), (h_a0_book, .inr (0, [.ref h_a0_book_now, .ref h_a0_book_past, .int u.1])), (h_a0_book_now, .inr (6, [.ref h_a0_book_now_cells, .int u.2.1, .int u.2.2.1, .int u.2.2.2.1, .int u.2.2.2.2.1])), (h_a0_book_now_cells, .inl (cI, 48, .inl u.2.2.2.2.2.1)), (h_a0_tape, .inr (5, [.ref h_a0_tape_letters, .int u.2.2.2.2.2.2.1, .int u.2.2.2.2.2.2.2.1, .ref h_a0_tape_told, .int u.2.2.2.2.2.2.2.2.1, .int u.2.2.2.2.2.2.2.2.2.1])), (h_a0_tape_letters, .inl (cC, 130, .inl a0_tape_letters)), (h_a0_tape_told, .inr (6, [.ref h_a0_tape_told_cells, .int u.2.2.2.2.2.2.2.2.2.2.1, .int u.2.2.2.2.2.2.2.2.2.2.2.1, .int a0_tape_told_draw, .int u.2.2.2.2.2.2.2.2.2.2.2.2.1])), (h_a0_tape_told_cells, .inl (cI, 48, .inl u.2.2.2.2.2.2.2.2.2.2.2.2.2)), (h_a1, .inl (cI, 51, .inl a1))])) (wr := [(h_a1, .inl (cI, 51, .inl a1))]) (va_runV (As := []) (rest := []) ⟨hx, hb, hml, hown, hts⟩ (c_X10_system l dC dI cI cJ cC cZ h_a0 h_a0_book h_a0_kept h_a0_tape h_a0_search h_a0_shade h_a0_sheets h_a0_book_now h_a0_book_past h_a0_book_now_cells h_a0_tape_letters h_a0_tape_told h_a0_tape_told_cells H.size a0_hasImage a0_book_known a0_book_now_size a0_book_now_most a0_book_now_draw a0_book_now_changes a0_book_now_cells a0_tape_length a0_tape_place a0_tape_lettersTold a0_tape_restTold a0_tape_letters a0_tape_told_size a0_tape_told_most a0_tape_told_draw a0_tape_told_changes a0_tape_told_cells _ hf) (cwV 0 hts gL_lays_X10_system rfl rfl rfl (by decide +kernel) ⟨Nat.le_of_ble_eq_true rfl, Nat.le_of_ble_eq_true rfl⟩) ⟨gz_blind, va_recv hK hP (ci := 7) (q0 := 0) rfl rfl, gz_pre (gz_P_of hP (is := [0, 1, 2, 3, 4, 5, 6, 7]) (wc := [(h_a0, .inr (7, [.ref h_a0_book, .ref h_a0_kept, .int a0_hasImage, .ref h_a0_tape, .ref h_a0_search, .ref h_a0_shade, .ref h_a0_sheets])), (h_a0_book, .inr (0, [.ref h_a0_book_now, .ref h_a0_book_past, .int a0_book_known])), (h_a0_book_now, .inr (6, [.ref h_a0_book_now_cells, .int a0_book_now_size, .int a0_book_now_most, .int a0_book_now_draw, .int a0_book_now_changes])), (h_a0_book_now_cells, .inl (cI, 48, .inl a0_book_now_cells)), (h_a0_tape, .inr (5, [.ref h_a0_tape_letters, .int a0_tape_length, .int a0_tape_place, .ref h_a0_tape_told, .int a0_tape_lettersTold, .int a0_tape_restTold])), (h_a0_tape_letters, .inl (cC, 130, .inl a0_tape_letters)), (h_a0_tape_told, .inr (6, [.ref h_a0_tape_told_cells, .int a0_tape_told_size, .int a0_tape_told_most, .int a0_tape_told_draw, .int a0_tape_told_changes])), (h_a0_tape_told_cells, .inl (cI, 48, .inl a0_tape_told_cells))]) rfl) hK (hD.sub [0, 1, 2, 3, 4, 5, 6, 7] (by decide) rfl) hN⟩ rfl rfl hl.1 rfl (lv_room (Nat.le_of_ble_eq_true rfl)) dL_lays_67 ⟨Nat.le_refl _, Nat.le_refl _⟩) hP hD hS hA [0, 1, 2, 3, 4, 5, 6, 7] [8] [1, 2, 3, 4, 5, 6, 7, 8, 0] rfl rfl (by decide) (by decide) (fun _ => rfl) (by decide) (fun r6 u H locs hf hP hD hS => ?_)
      obtain ⟨y7, y8, y9, y10, y11, y12, y13, y14, y15, y16, y17, y18, y19, y20⟩ := u
      have hP : va_P (dC, dI) vwCl [(h_a0, .inr (7, [.ref h_a0_book, .ref h_a0_kept, .int a0_hasImage, .ref h_a0_tape, .ref h_a0_search, .ref h_a0_shade, .ref h_a0_sheets])), (h_a0_book, .inr (0, [.ref h_a0_book_now, .ref h_a0_book_past, .int y7])), (h_a0_book_now, .inr (6, [.ref h_a0_book_now_cells, .int y8, .int y9, .int y10, .int y11])), (h_a0_book_now_cells, .inl (cI, 48, .inl y12)), (h_a0_tape, .inr (5, [.ref h_a0_tape_letters, .int y13, .int y14, .ref h_a0_tape_told, .int y15, .int y16])), (h_a0_tape_letters, .inl (cC, 130, .inl a0_tape_letters)), (h_a0_tape_told, .inr (6, [.ref h_a0_tape_told_cells, .int y17, .int y18, .int a0_tape_told_draw, .int y19])), (h_a0_tape_told_cells, .inl (cI, 48, .inl y20)), (h_a1, .inl (cI, 51, .inl a1))] H := hP
      have hD : va_D A [(h_a0, .inr (7, [.ref h_a0_book, .ref h_a0_kept, .int a0_hasImage, .ref h_a0_tape, .ref h_a0_search, .ref h_a0_shade, .ref h_a0_sheets])), (h_a0_book, .inr (0, [.ref h_a0_book_now, .ref h_a0_book_past, .int y7])), (h_a0_book_now, .inr (6, [.ref h_a0_book_now_cells, .int y8, .int y9, .int y10, .int y11])), (h_a0_book_now_cells, .inl (cI, 48, .inl y12)), (h_a0_tape, .inr (5, [.ref h_a0_tape_letters, .int y13, .int y14, .ref h_a0_tape_told, .int y15, .int y16])), (h_a0_tape_letters, .inl (cC, 130, .inl a0_tape_letters)), (h_a0_tape_told, .inr (6, [.ref h_a0_tape_told_cells, .int y17, .int y18, .int a0_tape_told_draw, .int y19])), (h_a0_tape_told_cells, .inl (cI, 48, .inl y20)), (h_a1, .inl (cI, 51, .inl a1))] := hD
      refine lv_aload_n hx hb dL_lays_70 rfl (lv_at hl 1 rfl) ?_
      refine lv_iconst (v := (0 : Int32)) hx hb dL_lays_71 (by decide) ?_
      obtain ⟨hb21, hf⟩ := hf
      refine va_iald hx hb hK hP 8 0 rfl rfl hb21 dL_lays_72 ?_
      refine lv_icmp_ne (tgt := 80) hx hb dL_lays_73 (by decide) (fun hc22 => ?_) (fun hc22 => ?_)
      · have hf := hf.2 hc22
        refine lv_iconst (v := (0 : Int32)) hx hb dL_lays_80 (by decide) ?_
        exact ret _ _ _ _ (0 : Int32) (y7, y8, y9, y10, y11, y12, y13, y14, y15, y16, a0_tape_letters, y17, y18, y19, y20) rfl hf hP hD hS dL_lays_81
      · have hf := hf.1 hc22
        refine lv_iconst (v := (1 : Int32)) hx hb dL_lays_76 (by decide) ?_
        refine lv_goto (tgt := 81) hx hb dL_lays_77 (by decide) ?_
        exact ret _ _ _ _ (1 : Int32) (y7, y8, y9, y10, y11, y12, y13, y14, y15, y16, a0_tape_letters, y17, y18, y19, y20) rfl hf hP hD hS dL_lays_81
  have L21 : ∀ (a0_book_known : Int32) (a0_book_now_size : Int32) (a0_book_now_most : Int32) (a0_book_now_draw : Int32) (a0_book_now_changes : Int32) (a0_book_now_cells : Nat → Int32) (a0_tape_place : Int32) (a0_tape_lettersTold : Int32) (a0_tape_restTold : Int32) (a0_tape_told_size : Int32) (a0_tape_told_most : Int32) (a0_tape_told_changes : Int32) (a0_tape_told_cells : Nat → Int32) (n : Nat) (x2 : Int32) (x3 : Int32) (a0_tape_length : Int32) (a0_tape_letters : Nat → Int32) (H : Heap) (locs : List Loc) (ls : Array Slot), gi4 (p_L_lays_21 a0_book_known a0_book_now_size a0_book_now_most a0_book_now_draw a0_book_now_changes a0_book_now_cells a0_tape_place a0_tape_lettersTold a0_tape_restTold a0_tape_told_size a0_tape_told_most a0_tape_told_draw a0_tape_told_changes a0_tape_told_cells a1 Q) n x2 x3 a0_tape_length a0_tape_letters → va_P (dC, dI) vwCl [(h_a0, .inr (7, [.ref h_a0_book, .ref h_a0_kept, .int a0_hasImage, .ref h_a0_tape, .ref h_a0_search, .ref h_a0_shade, .ref h_a0_sheets])), (h_a0_book, .inr (0, [.ref h_a0_book_now, .ref h_a0_book_past, .int a0_book_known])), (h_a0_book_now, .inr (6, [.ref h_a0_book_now_cells, .int a0_book_now_size, .int a0_book_now_most, .int a0_book_now_draw, .int a0_book_now_changes])), (h_a0_book_now_cells, .inl (cI, 48, .inl a0_book_now_cells)), (h_a0_tape, .inr (5, [.ref h_a0_tape_letters, .int a0_tape_length, .int a0_tape_place, .ref h_a0_tape_told, .int a0_tape_lettersTold, .int a0_tape_restTold])), (h_a0_tape_letters, .inl (cC, 130, .inl a0_tape_letters)), (h_a0_tape_told, .inr (6, [.ref h_a0_tape_told_cells, .int a0_tape_told_size, .int a0_tape_told_most, .int a0_tape_told_draw, .int a0_tape_told_changes])), (h_a0_tape_told_cells, .inl (cI, 48, .inl a0_tape_told_cells)), (h_a1, .inl (cI, 51, .inl a1))] H → va_D A [(h_a0, .inr (7, [.ref h_a0_book, .ref h_a0_kept, .int a0_hasImage, .ref h_a0_tape, .ref h_a0_search, .ref h_a0_shade, .ref h_a0_sheets])), (h_a0_book, .inr (0, [.ref h_a0_book_now, .ref h_a0_book_past, .int a0_book_known])), (h_a0_book_now, .inr (6, [.ref h_a0_book_now_cells, .int a0_book_now_size, .int a0_book_now_most, .int a0_book_now_draw, .int a0_book_now_changes])), (h_a0_book_now_cells, .inl (cI, 48, .inl a0_book_now_cells)), (h_a0_tape, .inr (5, [.ref h_a0_tape_letters, .int a0_tape_length, .int a0_tape_place, .ref h_a0_tape_told, .int a0_tape_lettersTold, .int a0_tape_restTold])), (h_a0_tape_letters, .inl (cC, 130, .inl a0_tape_letters)), (h_a0_tape_told, .inr (6, [.ref h_a0_tape_told_cells, .int a0_tape_told_size, .int a0_tape_told_most, .int a0_tape_told_draw, .int a0_tape_told_changes])), (h_a0_tape_told_cells, .inl (cI, 48, .inl a0_tape_told_cells)), (h_a1, .inl (cI, 51, .inl a1))] → va_S A s.heap H locs → lv_has ls 4 [(0, .ref h_a0), (1, .ref h_a1), (2, .int x2), (3, .int x3)] → W p l e rm_L_lays s m [.ref h_a0, .ref h_a1].toArray below meth c H locs 0 0 QQ (F0 m 21 ls []) := by
    intro a0_book_known a0_book_now_size a0_book_now_most a0_book_now_draw a0_book_now_changes a0_book_now_cells a0_tape_place a0_tape_lettersTold a0_tape_restTold a0_tape_told_size a0_tape_told_most a0_tape_told_changes a0_tape_told_cells n
    induction n with
    | zero => intro x2 x3 a0_tape_length a0_tape_letters H locs ls hf; exact False.elim hf
    | succ n ih21 =>
      generalize hK21 : gi4 (p_L_lays_21 a0_book_known a0_book_now_size a0_book_now_most a0_book_now_draw a0_book_now_changes a0_book_now_cells a0_tape_place a0_tape_lettersTold a0_tape_restTold a0_tape_told_size a0_tape_told_most a0_tape_told_draw a0_tape_told_changes a0_tape_told_cells a1 Q) n = K21 at ih21
      have L55 : ∀ (x3 : Int32) (a0_tape_length : Int32) (a0_tape_letters : Nat → Int32) (s0 : Int32) (H : Heap) (locs : List Loc) (ls : Array Slot), p_L_lays_55 a0_tape_length a0_tape_letters x3 s0 K21 → va_P (dC, dI) vwCl [(h_a0, .inr (7, [.ref h_a0_book, .ref h_a0_kept, .int a0_hasImage, .ref h_a0_tape, .ref h_a0_search, .ref h_a0_shade, .ref h_a0_sheets])), (h_a0_book, .inr (0, [.ref h_a0_book_now, .ref h_a0_book_past, .int a0_book_known])), (h_a0_book_now, .inr (6, [.ref h_a0_book_now_cells, .int a0_book_now_size, .int a0_book_now_most, .int a0_book_now_draw, .int a0_book_now_changes])), (h_a0_book_now_cells, .inl (cI, 48, .inl a0_book_now_cells)), (h_a0_tape, .inr (5, [.ref h_a0_tape_letters, .int a0_tape_length, .int a0_tape_place, .ref h_a0_tape_told, .int a0_tape_lettersTold, .int a0_tape_restTold])), (h_a0_tape_letters, .inl (cC, 130, .inl a0_tape_letters)), (h_a0_tape_told, .inr (6, [.ref h_a0_tape_told_cells, .int a0_tape_told_size, .int a0_tape_told_most, .int a0_tape_told_draw, .int a0_tape_told_changes])), (h_a0_tape_told_cells, .inl (cI, 48, .inl a0_tape_told_cells)), (h_a1, .inl (cI, 51, .inl a1))] H → va_D A [(h_a0, .inr (7, [.ref h_a0_book, .ref h_a0_kept, .int a0_hasImage, .ref h_a0_tape, .ref h_a0_search, .ref h_a0_shade, .ref h_a0_sheets])), (h_a0_book, .inr (0, [.ref h_a0_book_now, .ref h_a0_book_past, .int a0_book_known])), (h_a0_book_now, .inr (6, [.ref h_a0_book_now_cells, .int a0_book_now_size, .int a0_book_now_most, .int a0_book_now_draw, .int a0_book_now_changes])), (h_a0_book_now_cells, .inl (cI, 48, .inl a0_book_now_cells)), (h_a0_tape, .inr (5, [.ref h_a0_tape_letters, .int a0_tape_length, .int a0_tape_place, .ref h_a0_tape_told, .int a0_tape_lettersTold, .int a0_tape_restTold])), (h_a0_tape_letters, .inl (cC, 130, .inl a0_tape_letters)), (h_a0_tape_told, .inr (6, [.ref h_a0_tape_told_cells, .int a0_tape_told_size, .int a0_tape_told_most, .int a0_tape_told_draw, .int a0_tape_told_changes])), (h_a0_tape_told_cells, .inl (cI, 48, .inl a0_tape_told_cells)), (h_a1, .inl (cI, 51, .inl a1))] → va_S A s.heap H locs → lv_has ls 4 [(0, .ref h_a0), (1, .ref h_a1), (3, .int x3)] → W p l e rm_L_lays s m [.ref h_a0, .ref h_a1].toArray below meth c H locs 0 0 QQ (F0 m 55 ls [.int s0]) := by
        intro x3 a0_tape_length a0_tape_letters s0 H locs ls hf hP hD hS hl
        refine lv_istore_n (lv' := [(2, .int s0), (0, .ref h_a0), (1, .ref h_a1), (3, .int x3)]) hx hb dL_lays_55 rfl hl (by decide) rfl (fun ls hl => ?_)
        refine lv_iinc (v := (x3 + (1 : Int32))) (lv' := [(3, .int (x3 + (1 : Int32))), (2, .int s0), (0, .ref h_a0), (1, .ref h_a1)]) hx hb dL_lays_56 hl (k := 3) rfl rfl (by decide) rfl (fun ls hl => ?_)
        refine lv_goto (tgt := 21) hx hb dL_lays_59 (by decide) ?_
        exact ih21 s0 (x3 + (1 : Int32)) a0_tape_length a0_tape_letters _ _ _ hf hP hD hS (lv_sub hl [2, 3, 1, 0] rfl)
      have L54 : ∀ (x3 : Int32) (a0_tape_length : Int32) (a0_tape_letters : Nat → Int32) (H : Heap) (locs : List Loc) (ls : Array Slot), p_L_lays_54 a0_tape_length a0_tape_letters x3 K21 → va_P (dC, dI) vwCl [(h_a0, .inr (7, [.ref h_a0_book, .ref h_a0_kept, .int a0_hasImage, .ref h_a0_tape, .ref h_a0_search, .ref h_a0_shade, .ref h_a0_sheets])), (h_a0_book, .inr (0, [.ref h_a0_book_now, .ref h_a0_book_past, .int a0_book_known])), (h_a0_book_now, .inr (6, [.ref h_a0_book_now_cells, .int a0_book_now_size, .int a0_book_now_most, .int a0_book_now_draw, .int a0_book_now_changes])), (h_a0_book_now_cells, .inl (cI, 48, .inl a0_book_now_cells)), (h_a0_tape, .inr (5, [.ref h_a0_tape_letters, .int a0_tape_length, .int a0_tape_place, .ref h_a0_tape_told, .int a0_tape_lettersTold, .int a0_tape_restTold])), (h_a0_tape_letters, .inl (cC, 130, .inl a0_tape_letters)), (h_a0_tape_told, .inr (6, [.ref h_a0_tape_told_cells, .int a0_tape_told_size, .int a0_tape_told_most, .int a0_tape_told_draw, .int a0_tape_told_changes])), (h_a0_tape_told_cells, .inl (cI, 48, .inl a0_tape_told_cells)), (h_a1, .inl (cI, 51, .inl a1))] H → va_D A [(h_a0, .inr (7, [.ref h_a0_book, .ref h_a0_kept, .int a0_hasImage, .ref h_a0_tape, .ref h_a0_search, .ref h_a0_shade, .ref h_a0_sheets])), (h_a0_book, .inr (0, [.ref h_a0_book_now, .ref h_a0_book_past, .int a0_book_known])), (h_a0_book_now, .inr (6, [.ref h_a0_book_now_cells, .int a0_book_now_size, .int a0_book_now_most, .int a0_book_now_draw, .int a0_book_now_changes])), (h_a0_book_now_cells, .inl (cI, 48, .inl a0_book_now_cells)), (h_a0_tape, .inr (5, [.ref h_a0_tape_letters, .int a0_tape_length, .int a0_tape_place, .ref h_a0_tape_told, .int a0_tape_lettersTold, .int a0_tape_restTold])), (h_a0_tape_letters, .inl (cC, 130, .inl a0_tape_letters)), (h_a0_tape_told, .inr (6, [.ref h_a0_tape_told_cells, .int a0_tape_told_size, .int a0_tape_told_most, .int a0_tape_told_draw, .int a0_tape_told_changes])), (h_a0_tape_told_cells, .inl (cI, 48, .inl a0_tape_told_cells)), (h_a1, .inl (cI, 51, .inl a1))] → va_S A s.heap H locs → lv_has ls 4 [(0, .ref h_a0), (1, .ref h_a1), (3, .int x3)] → W p l e rm_L_lays s m [.ref h_a0, .ref h_a1].toArray below meth c H locs 0 0 QQ (F0 m 54 ls []) := by
        intro x3 a0_tape_length a0_tape_letters H locs ls hf hP hD hS hl
        refine lv_iconst (v := (0 : Int32)) hx hb dL_lays_54 (by decide) ?_
        exact L55 x3 a0_tape_length a0_tape_letters (0 : Int32) _ _ _ hf hP hD hS hl
      intro x2 x3 a0_tape_length a0_tape_letters H locs ls hf hP hD hS hl
      have hf : p_L_lays_21 a0_book_known a0_book_now_size a0_book_now_most a0_book_now_draw a0_book_now_changes a0_book_now_cells a0_tape_place a0_tape_lettersTold a0_tape_restTold a0_tape_told_size a0_tape_told_most a0_tape_told_draw a0_tape_told_changes a0_tape_told_cells a1 Q (gi4 (p_L_lays_21 a0_book_known a0_book_now_size a0_book_now_most a0_book_now_draw a0_book_now_changes a0_book_now_cells a0_tape_place a0_tape_lettersTold a0_tape_restTold a0_tape_told_size a0_tape_told_most a0_tape_told_draw a0_tape_told_changes a0_tape_told_cells a1 Q) n) x2 x3 a0_tape_length a0_tape_letters := hf
      rw [hK21] at hf
      refine lv_iload_n hx hb dL_lays_21 rfl (lv_at hl 3 rfl) ?_
      refine lv_aload_n hx hb dL_lays_22 rfl (lv_at hl 1 rfl) ?_
      refine lv_iconst (v := (0 : Int32)) hx hb dL_lays_23 (by decide) ?_
      obtain ⟨hb5, hf⟩ := hf
      refine va_iald hx hb hK hP 8 0 rfl rfl hb5 dL_lays_24 ?_
      refine lv_icmp_ge (tgt := 62) hx hb dL_lays_25 (by decide) (fun hc33 => ?_) (fun hc33 => ?_)
      · have hf := hf.1 hc33
        exact L62 x2 a0_book_known a0_book_now_size a0_book_now_most a0_book_now_draw a0_book_now_changes a0_book_now_cells a0_tape_length a0_tape_place a0_tape_lettersTold a0_tape_restTold a0_tape_letters a0_tape_told_size a0_tape_told_most a0_tape_told_changes a0_tape_told_cells _ _ _ hf hP hD hS (lv_sub hl [0, 1, 2] rfl)
      · have hf := hf.2 hc33
        refine lv_iload_n hx hb dL_lays_28 rfl (lv_at hl 2 rfl) ?_
        refine lv_if_eq (tgt := 62) hx hb dL_lays_29 (by decide) (fun hc32 => ?_) (fun hc32 => ?_)
        · have hf := hf.1 hc32
          exact L62 x2 a0_book_known a0_book_now_size a0_book_now_most a0_book_now_draw a0_book_now_changes a0_book_now_cells a0_tape_length a0_tape_place a0_tape_lettersTold a0_tape_restTold a0_tape_letters a0_tape_told_size a0_tape_told_most a0_tape_told_changes a0_tape_told_cells _ _ _ hf hP hD hS (lv_sub hl [0, 1, 2] rfl)
        · have hf := hf.2 hc32
          refine lv_aload_n hx hb dL_lays_32 rfl (lv_at hl 0 rfl) ?_
          refine lv_bipush (v := (59 : Int32)) hx hb dL_lays_33 (by decide) ?_
          refine gz_i (W1 := (fun u : Int32 × (Nat → Int32) => [(h_a0, .inr (7, [.ref h_a0_book, .ref h_a0_kept, .int a0_hasImage, .ref h_a0_tape, .ref h_a0_search, .ref h_a0_shade, .ref h_a0_sheets])), (h_a0_tape, .inr (5, [.ref h_a0_tape_letters, .int u.1, .int a0_tape_place, .ref h_a0_tape_told, .int a0_tape_lettersTold, .int a0_tape_restTold])), (h_a0_tape_letters, .inl (cC, 130, .inl u.2))])) (wn := (fun u : Int32 × (Nat → Int32) => [(h_a0, .inr (7, [.ref h_a0_book, .ref h_a0_kept, .int a0_hasImage, .ref h_a0_tape, .ref h_a0_search, .ref h_a0_shade, .ref h_a0_sheets])), (h_a0_book, .inr (0, [.ref h_a0_book_now, .ref h_a0_book_past, .int a0_book_known])), (h_a0_book_now, .inr (6, [.ref h_a0_book_now_cells, .int a0_book_now_size, .int a0_book_now_most, .int a0_book_now_draw, .int a0_book_now_changes])), (h_a0_book_now_cells, .inl (cI, 48, .inl a0_book_now_cells)), (h_a0_tape, .inr (5, [.ref h_a0_tape_letters, .int u.1, .int a0_tape_place, .ref h_a0_tape_told, .int a0_tape_lettersTold, .int a0_tape_restTold])), (h_a0_tape_letters, .inl (cC, 130, .inl u.2)), (h_a0_tape_told, .inr (6, [.ref h_a0_tape_told_cells, .int a0_tape_told_size, .int a0_tape_told_most, .int a0_tape_told_draw, .int a0_tape_told_changes])), (h_a0_tape_told_cells, .inl (cI, 48, .inl a0_tape_told_cells)), (h_a1, .inl (cI, 51, .inl a1))])) (wr := [(h_a0_book, .inr (0, [.ref h_a0_book_now, .ref h_a0_book_past, .int a0_book_known])), (h_a0_book_now, .inr (6, [.ref h_a0_book_now_cells, .int a0_book_now_size, .int a0_book_now_most, .int a0_book_now_draw, .int a0_book_now_changes])), (h_a0_book_now_cells, .inl (cI, 48, .inl a0_book_now_cells)), (h_a0_tape_told, .inr (6, [.ref h_a0_tape_told_cells, .int a0_tape_told_size, .int a0_tape_told_most, .int a0_tape_told_draw, .int a0_tape_told_changes])), (h_a0_tape_told_cells, .inl (cI, 48, .inl a0_tape_told_cells)), (h_a1, .inl (cI, 51, .inl a1))]) (va_runV (As := [.int (59 : Int32)]) (rest := []) ⟨hx, hb, hml, hown, hts⟩ (c_X10_type l dC dI cI cJ cC cZ h_a0 h_a0_book h_a0_kept h_a0_tape h_a0_search h_a0_shade h_a0_sheets h_a0_tape_letters h_a0_tape_told H.size a0_hasImage a0_tape_length a0_tape_place a0_tape_lettersTold a0_tape_restTold a0_tape_letters (59 : Int32) _ hf) (cwV 1 hts gL_lays_X10_type rfl rfl rfl (by decide +kernel) ⟨Nat.le_of_ble_eq_true rfl, Nat.le_of_ble_eq_true rfl⟩) ⟨gz_blind, va_recv hK hP (ci := 7) (q0 := 0) rfl rfl, gz_pre (gz_P_of hP (is := [0, 4, 5]) (wc := [(h_a0, .inr (7, [.ref h_a0_book, .ref h_a0_kept, .int a0_hasImage, .ref h_a0_tape, .ref h_a0_search, .ref h_a0_shade, .ref h_a0_sheets])), (h_a0_tape, .inr (5, [.ref h_a0_tape_letters, .int a0_tape_length, .int a0_tape_place, .ref h_a0_tape_told, .int a0_tape_lettersTold, .int a0_tape_restTold])), (h_a0_tape_letters, .inl (cC, 130, .inl a0_tape_letters))]) rfl) hK (hD.sub [0, 4, 5] (by decide) rfl) gz_N0⟩ rfl rfl hl.1 rfl (lv_room (Nat.le_of_ble_eq_true rfl)) dL_lays_35 ⟨Nat.le_refl _, Nat.le_refl _⟩) hP hD hS hA [0, 4, 5] [1, 2, 3, 6, 7, 8] [6, 0, 1, 2, 7, 8, 3, 4, 5] rfl rfl (by decide) (by decide) (fun _ => rfl) (by decide) (fun r24 u H locs hf hP hD hS => ?_)
          obtain ⟨y25, y26⟩ := u
          have hP : va_P (dC, dI) vwCl [(h_a0, .inr (7, [.ref h_a0_book, .ref h_a0_kept, .int a0_hasImage, .ref h_a0_tape, .ref h_a0_search, .ref h_a0_shade, .ref h_a0_sheets])), (h_a0_book, .inr (0, [.ref h_a0_book_now, .ref h_a0_book_past, .int a0_book_known])), (h_a0_book_now, .inr (6, [.ref h_a0_book_now_cells, .int a0_book_now_size, .int a0_book_now_most, .int a0_book_now_draw, .int a0_book_now_changes])), (h_a0_book_now_cells, .inl (cI, 48, .inl a0_book_now_cells)), (h_a0_tape, .inr (5, [.ref h_a0_tape_letters, .int y25, .int a0_tape_place, .ref h_a0_tape_told, .int a0_tape_lettersTold, .int a0_tape_restTold])), (h_a0_tape_letters, .inl (cC, 130, .inl y26)), (h_a0_tape_told, .inr (6, [.ref h_a0_tape_told_cells, .int a0_tape_told_size, .int a0_tape_told_most, .int a0_tape_told_draw, .int a0_tape_told_changes])), (h_a0_tape_told_cells, .inl (cI, 48, .inl a0_tape_told_cells)), (h_a1, .inl (cI, 51, .inl a1))] H := hP
          have hD : va_D A [(h_a0, .inr (7, [.ref h_a0_book, .ref h_a0_kept, .int a0_hasImage, .ref h_a0_tape, .ref h_a0_search, .ref h_a0_shade, .ref h_a0_sheets])), (h_a0_book, .inr (0, [.ref h_a0_book_now, .ref h_a0_book_past, .int a0_book_known])), (h_a0_book_now, .inr (6, [.ref h_a0_book_now_cells, .int a0_book_now_size, .int a0_book_now_most, .int a0_book_now_draw, .int a0_book_now_changes])), (h_a0_book_now_cells, .inl (cI, 48, .inl a0_book_now_cells)), (h_a0_tape, .inr (5, [.ref h_a0_tape_letters, .int y25, .int a0_tape_place, .ref h_a0_tape_told, .int a0_tape_lettersTold, .int a0_tape_restTold])), (h_a0_tape_letters, .inl (cC, 130, .inl y26)), (h_a0_tape_told, .inr (6, [.ref h_a0_tape_told_cells, .int a0_tape_told_size, .int a0_tape_told_most, .int a0_tape_told_draw, .int a0_tape_told_changes])), (h_a0_tape_told_cells, .inl (cI, 48, .inl a0_tape_told_cells)), (h_a1, .inl (cI, 51, .inl a1))] := hD
          refine lv_if_le (tgt := 54) hx hb dL_lays_38 (by decide) (fun hc31 => ?_) (fun hc31 => ?_)
          · have hf := hf.1 hc31
            exact L54 x3 y25 y26 _ _ _ hf hP hD hS (lv_sub hl [0, 1, 3] rfl)
          · have hf := hf.2 hc31
            refine lv_aload_n hx hb dL_lays_41 rfl (lv_at hl 0 rfl) ?_
            refine lv_aload_n hx hb dL_lays_42 rfl (lv_at hl 1 rfl) ?_
            refine lv_iload_n hx hb dL_lays_43 rfl (lv_at hl 3 rfl) ?_
            refine gz_i (W1 := (fun u : Int32 × (Nat → Int32) => [(h_a0, .inr (7, [.ref h_a0_book, .ref h_a0_kept, .int a0_hasImage, .ref h_a0_tape, .ref h_a0_search, .ref h_a0_shade, .ref h_a0_sheets])), (h_a0_tape, .inr (5, [.ref h_a0_tape_letters, .int u.1, .int a0_tape_place, .ref h_a0_tape_told, .int a0_tape_lettersTold, .int a0_tape_restTold])), (h_a0_tape_letters, .inl (cC, 130, .inl u.2)), (h_a1, .inl (cI, 51, .inl a1))])) (wn := (fun u : Int32 × (Nat → Int32) => [(h_a0, .inr (7, [.ref h_a0_book, .ref h_a0_kept, .int a0_hasImage, .ref h_a0_tape, .ref h_a0_search, .ref h_a0_shade, .ref h_a0_sheets])), (h_a0_book, .inr (0, [.ref h_a0_book_now, .ref h_a0_book_past, .int a0_book_known])), (h_a0_book_now, .inr (6, [.ref h_a0_book_now_cells, .int a0_book_now_size, .int a0_book_now_most, .int a0_book_now_draw, .int a0_book_now_changes])), (h_a0_book_now_cells, .inl (cI, 48, .inl a0_book_now_cells)), (h_a0_tape, .inr (5, [.ref h_a0_tape_letters, .int u.1, .int a0_tape_place, .ref h_a0_tape_told, .int a0_tape_lettersTold, .int a0_tape_restTold])), (h_a0_tape_letters, .inl (cC, 130, .inl u.2)), (h_a0_tape_told, .inr (6, [.ref h_a0_tape_told_cells, .int a0_tape_told_size, .int a0_tape_told_most, .int a0_tape_told_draw, .int a0_tape_told_changes])), (h_a0_tape_told_cells, .inl (cI, 48, .inl a0_tape_told_cells)), (h_a1, .inl (cI, 51, .inl a1))])) (wr := [(h_a0_book, .inr (0, [.ref h_a0_book_now, .ref h_a0_book_past, .int a0_book_known])), (h_a0_book_now, .inr (6, [.ref h_a0_book_now_cells, .int a0_book_now_size, .int a0_book_now_most, .int a0_book_now_draw, .int a0_book_now_changes])), (h_a0_book_now_cells, .inl (cI, 48, .inl a0_book_now_cells)), (h_a0_tape_told, .inr (6, [.ref h_a0_tape_told_cells, .int a0_tape_told_size, .int a0_tape_told_most, .int a0_tape_told_draw, .int a0_tape_told_changes])), (h_a0_tape_told_cells, .inl (cI, 48, .inl a0_tape_told_cells))]) (va_runS (As := [.ref h_a0, .ref h_a1, .int x3]) (rest := []) ⟨hx, hb, hml, hown, hts⟩ (c_L_says l dC dI cI cJ cC cZ h_a0 h_a0_book h_a0_kept h_a0_tape h_a0_search h_a0_shade h_a0_sheets h_a0_tape_letters h_a0_tape_told h_a1 H.size a0_hasImage y25 a0_tape_place a0_tape_lettersTold a0_tape_restTold y26 a1 x3 _ hf) (va_cwS 3 hts gL_lays_L_says rfl rfl rfl (by decide +kernel) ⟨Nat.le_of_ble_eq_true rfl, Nat.le_of_ble_eq_true rfl⟩) ⟨gz_blind, gz_pre (gz_P_of hP (is := [0, 4, 5, 8]) (wc := [(h_a0, .inr (7, [.ref h_a0_book, .ref h_a0_kept, .int a0_hasImage, .ref h_a0_tape, .ref h_a0_search, .ref h_a0_shade, .ref h_a0_sheets])), (h_a0_tape, .inr (5, [.ref h_a0_tape_letters, .int y25, .int a0_tape_place, .ref h_a0_tape_told, .int a0_tape_lettersTold, .int a0_tape_restTold])), (h_a0_tape_letters, .inl (cC, 130, .inl y26)), (h_a1, .inl (cI, 51, .inl a1))]) rfl) hK (hD.sub [0, 4, 5, 8] (by decide) rfl) gz_N0⟩ rfl rfl hl.1 rfl (lv_room (Nat.le_of_ble_eq_true rfl)) dL_lays_44 ⟨Nat.le_refl _, Nat.le_refl _⟩) hP hD hS hA [0, 4, 5, 8] [1, 2, 3, 6, 7] [5, 0, 1, 2, 6, 7, 3, 4, 8] rfl rfl (by decide) (by decide) (fun _ => rfl) (by decide) (fun r27 u H locs hf hP hD hS => ?_)
            obtain ⟨y28, y29⟩ := u
            have hP : va_P (dC, dI) vwCl [(h_a0, .inr (7, [.ref h_a0_book, .ref h_a0_kept, .int a0_hasImage, .ref h_a0_tape, .ref h_a0_search, .ref h_a0_shade, .ref h_a0_sheets])), (h_a0_book, .inr (0, [.ref h_a0_book_now, .ref h_a0_book_past, .int a0_book_known])), (h_a0_book_now, .inr (6, [.ref h_a0_book_now_cells, .int a0_book_now_size, .int a0_book_now_most, .int a0_book_now_draw, .int a0_book_now_changes])), (h_a0_book_now_cells, .inl (cI, 48, .inl a0_book_now_cells)), (h_a0_tape, .inr (5, [.ref h_a0_tape_letters, .int y28, .int a0_tape_place, .ref h_a0_tape_told, .int a0_tape_lettersTold, .int a0_tape_restTold])), (h_a0_tape_letters, .inl (cC, 130, .inl y29)), (h_a0_tape_told, .inr (6, [.ref h_a0_tape_told_cells, .int a0_tape_told_size, .int a0_tape_told_most, .int a0_tape_told_draw, .int a0_tape_told_changes])), (h_a0_tape_told_cells, .inl (cI, 48, .inl a0_tape_told_cells)), (h_a1, .inl (cI, 51, .inl a1))] H := hP
            have hD : va_D A [(h_a0, .inr (7, [.ref h_a0_book, .ref h_a0_kept, .int a0_hasImage, .ref h_a0_tape, .ref h_a0_search, .ref h_a0_shade, .ref h_a0_sheets])), (h_a0_book, .inr (0, [.ref h_a0_book_now, .ref h_a0_book_past, .int a0_book_known])), (h_a0_book_now, .inr (6, [.ref h_a0_book_now_cells, .int a0_book_now_size, .int a0_book_now_most, .int a0_book_now_draw, .int a0_book_now_changes])), (h_a0_book_now_cells, .inl (cI, 48, .inl a0_book_now_cells)), (h_a0_tape, .inr (5, [.ref h_a0_tape_letters, .int y28, .int a0_tape_place, .ref h_a0_tape_told, .int a0_tape_lettersTold, .int a0_tape_restTold])), (h_a0_tape_letters, .inl (cC, 130, .inl y29)), (h_a0_tape_told, .inr (6, [.ref h_a0_tape_told_cells, .int a0_tape_told_size, .int a0_tape_told_most, .int a0_tape_told_draw, .int a0_tape_told_changes])), (h_a0_tape_told_cells, .inl (cI, 48, .inl a0_tape_told_cells)), (h_a1, .inl (cI, 51, .inl a1))] := hD
            refine lv_if_eq (tgt := 54) hx hb dL_lays_47 (by decide) (fun hc30 => ?_) (fun hc30 => ?_)
            · have hf := hf.1 hc30
              exact L54 x3 y28 y29 _ _ _ hf hP hD hS (lv_sub hl [0, 1, 3] rfl)
            · have hf := hf.2 hc30
              refine lv_iconst (v := (1 : Int32)) hx hb dL_lays_50 (by decide) ?_
              refine lv_goto (tgt := 55) hx hb dL_lays_51 (by decide) ?_
              exact L55 x3 y28 y29 (1 : Int32) _ _ _ hf hP hD hS (lv_sub hl [0, 1, 3] rfl)
  have L18 : ∀ (a0_book_known : Int32) (a0_book_now_size : Int32) (a0_book_now_most : Int32) (a0_book_now_draw : Int32) (a0_book_now_changes : Int32) (a0_book_now_cells : Nat → Int32) (a0_tape_length : Int32) (a0_tape_place : Int32) (a0_tape_lettersTold : Int32) (a0_tape_restTold : Int32) (a0_tape_letters : Nat → Int32) (a0_tape_told_size : Int32) (a0_tape_told_most : Int32) (a0_tape_told_changes : Int32) (a0_tape_told_cells : Nat → Int32) (s0 : Int32) (H : Heap) (locs : List Loc) (ls : Array Slot), p_L_lays_18 a0_book_known a0_book_now_size a0_book_now_most a0_book_now_draw a0_book_now_changes a0_book_now_cells a0_tape_length a0_tape_place a0_tape_lettersTold a0_tape_restTold a0_tape_letters a0_tape_told_size a0_tape_told_most a0_tape_told_draw a0_tape_told_changes a0_tape_told_cells a1 s0 Q → va_P (dC, dI) vwCl [(h_a0, .inr (7, [.ref h_a0_book, .ref h_a0_kept, .int a0_hasImage, .ref h_a0_tape, .ref h_a0_search, .ref h_a0_shade, .ref h_a0_sheets])), (h_a0_book, .inr (0, [.ref h_a0_book_now, .ref h_a0_book_past, .int a0_book_known])), (h_a0_book_now, .inr (6, [.ref h_a0_book_now_cells, .int a0_book_now_size, .int a0_book_now_most, .int a0_book_now_draw, .int a0_book_now_changes])), (h_a0_book_now_cells, .inl (cI, 48, .inl a0_book_now_cells)), (h_a0_tape, .inr (5, [.ref h_a0_tape_letters, .int a0_tape_length, .int a0_tape_place, .ref h_a0_tape_told, .int a0_tape_lettersTold, .int a0_tape_restTold])), (h_a0_tape_letters, .inl (cC, 130, .inl a0_tape_letters)), (h_a0_tape_told, .inr (6, [.ref h_a0_tape_told_cells, .int a0_tape_told_size, .int a0_tape_told_most, .int a0_tape_told_draw, .int a0_tape_told_changes])), (h_a0_tape_told_cells, .inl (cI, 48, .inl a0_tape_told_cells)), (h_a1, .inl (cI, 51, .inl a1))] H → va_D A [(h_a0, .inr (7, [.ref h_a0_book, .ref h_a0_kept, .int a0_hasImage, .ref h_a0_tape, .ref h_a0_search, .ref h_a0_shade, .ref h_a0_sheets])), (h_a0_book, .inr (0, [.ref h_a0_book_now, .ref h_a0_book_past, .int a0_book_known])), (h_a0_book_now, .inr (6, [.ref h_a0_book_now_cells, .int a0_book_now_size, .int a0_book_now_most, .int a0_book_now_draw, .int a0_book_now_changes])), (h_a0_book_now_cells, .inl (cI, 48, .inl a0_book_now_cells)), (h_a0_tape, .inr (5, [.ref h_a0_tape_letters, .int a0_tape_length, .int a0_tape_place, .ref h_a0_tape_told, .int a0_tape_lettersTold, .int a0_tape_restTold])), (h_a0_tape_letters, .inl (cC, 130, .inl a0_tape_letters)), (h_a0_tape_told, .inr (6, [.ref h_a0_tape_told_cells, .int a0_tape_told_size, .int a0_tape_told_most, .int a0_tape_told_draw, .int a0_tape_told_changes])), (h_a0_tape_told_cells, .inl (cI, 48, .inl a0_tape_told_cells)), (h_a1, .inl (cI, 51, .inl a1))] → va_S A s.heap H locs → lv_has ls 4 [(0, .ref h_a0), (1, .ref h_a1)] → W p l e rm_L_lays s m [.ref h_a0, .ref h_a1].toArray below meth c H locs 0 0 QQ (F0 m 18 ls [.int s0]) := by
    intro a0_book_known a0_book_now_size a0_book_now_most a0_book_now_draw a0_book_now_changes a0_book_now_cells a0_tape_length a0_tape_place a0_tape_lettersTold a0_tape_restTold a0_tape_letters a0_tape_told_size a0_tape_told_most a0_tape_told_changes a0_tape_told_cells s0 H locs ls hf hP hD hS hl
    refine lv_istore_n (lv' := [(2, .int s0), (0, .ref h_a0), (1, .ref h_a1)]) hx hb dL_lays_18 rfl hl (by decide) rfl (fun ls hl => ?_)
    refine lv_iconst (v := (0 : Int32)) hx hb dL_lays_19 (by decide) ?_
    refine lv_istore_n (lv' := [(3, .int (0 : Int32)), (2, .int s0), (0, .ref h_a0), (1, .ref h_a1)]) hx hb dL_lays_20 rfl hl (by decide) rfl (fun ls hl => ?_)
    obtain ⟨n, hf⟩ := hf
    exact L21 a0_book_known a0_book_now_size a0_book_now_most a0_book_now_draw a0_book_now_changes a0_book_now_cells a0_tape_place a0_tape_lettersTold a0_tape_restTold a0_tape_told_size a0_tape_told_most a0_tape_told_changes a0_tape_told_cells n s0 (0 : Int32) a0_tape_length a0_tape_letters _ _ _ hf hP hD hS (lv_sub hl [2, 3, 1, 0] rfl)
  have hf := hw
  refine lv_aload_n hx hb dL_lays_0 rfl (lv_at hl 0 rfl) ?_
  refine lv_bipush (v := (48 : Int32)) hx hb dL_lays_1 (by decide) ?_
  refine lv_aload_n hx hb dL_lays_3 rfl (lv_at hl 1 rfl) ?_
  refine lv_iconst (v := (1 : Int32)) hx hb dL_lays_4 (by decide) ?_
  obtain ⟨hb1, hf⟩ := hf
  refine va_iald hx hb hK hP 8 0 rfl rfl hb1 dL_lays_5 ?_
  refine lv_iadd hx hb dL_lays_6 ?_
  refine gz_i (W1 := (fun u : Int32 × (Nat → Int32) => [(h_a0, .inr (7, [.ref h_a0_book, .ref h_a0_kept, .int a0_hasImage, .ref h_a0_tape, .ref h_a0_search, .ref h_a0_shade, .ref h_a0_sheets])), (h_a0_tape, .inr (5, [.ref h_a0_tape_letters, .int u.1, .int a0_tape_place, .ref h_a0_tape_told, .int a0_tape_lettersTold, .int a0_tape_restTold])), (h_a0_tape_letters, .inl (cC, 130, .inl u.2))])) (wn := (fun u : Int32 × (Nat → Int32) => [(h_a0, .inr (7, [.ref h_a0_book, .ref h_a0_kept, .int a0_hasImage, .ref h_a0_tape, .ref h_a0_search, .ref h_a0_shade, .ref h_a0_sheets])), (h_a0_book, .inr (0, [.ref h_a0_book_now, .ref h_a0_book_past, .int a0_book_known])), (h_a0_book_now, .inr (6, [.ref h_a0_book_now_cells, .int a0_book_now_size, .int a0_book_now_most, .int a0_book_now_draw, .int a0_book_now_changes])), (h_a0_book_now_cells, .inl (cI, 48, .inl a0_book_now_cells)), (h_a0_tape, .inr (5, [.ref h_a0_tape_letters, .int u.1, .int a0_tape_place, .ref h_a0_tape_told, .int a0_tape_lettersTold, .int a0_tape_restTold])), (h_a0_tape_letters, .inl (cC, 130, .inl u.2)), (h_a0_tape_told, .inr (6, [.ref h_a0_tape_told_cells, .int a0_tape_told_size, .int a0_tape_told_most, .int a0_tape_told_draw, .int a0_tape_told_changes])), (h_a0_tape_told_cells, .inl (cI, 48, .inl a0_tape_told_cells)), (h_a1, .inl (cI, 51, .inl a1))])) (wr := [(h_a0_book, .inr (0, [.ref h_a0_book_now, .ref h_a0_book_past, .int a0_book_known])), (h_a0_book_now, .inr (6, [.ref h_a0_book_now_cells, .int a0_book_now_size, .int a0_book_now_most, .int a0_book_now_draw, .int a0_book_now_changes])), (h_a0_book_now_cells, .inl (cI, 48, .inl a0_book_now_cells)), (h_a0_tape_told, .inr (6, [.ref h_a0_tape_told_cells, .int a0_tape_told_size, .int a0_tape_told_most, .int a0_tape_told_draw, .int a0_tape_told_changes])), (h_a0_tape_told_cells, .inl (cI, 48, .inl a0_tape_told_cells)), (h_a1, .inl (cI, 51, .inl a1))]) (va_runV (As := [.int ((48 : Int32) + (a1 (1 : Int32).toNatClampNeg))]) (rest := []) ⟨hx, hb, hml, hown, hts⟩ (c_X10_type l dC dI cI cJ cC cZ h_a0 h_a0_book h_a0_kept h_a0_tape h_a0_search h_a0_shade h_a0_sheets h_a0_tape_letters h_a0_tape_told s.heap.size a0_hasImage a0_tape_length a0_tape_place a0_tape_lettersTold a0_tape_restTold a0_tape_letters ((48 : Int32) + (a1 (1 : Int32).toNatClampNeg)) _ hf) (cwV 1 hts gL_lays_X10_type rfl rfl rfl (by decide +kernel) ⟨Nat.le_of_ble_eq_true rfl, Nat.le_of_ble_eq_true rfl⟩) ⟨gz_blind, va_recv hK hP (ci := 7) (q0 := 0) rfl rfl, gz_pre (gz_P_of hP (is := [0, 4, 5]) (wc := [(h_a0, .inr (7, [.ref h_a0_book, .ref h_a0_kept, .int a0_hasImage, .ref h_a0_tape, .ref h_a0_search, .ref h_a0_shade, .ref h_a0_sheets])), (h_a0_tape, .inr (5, [.ref h_a0_tape_letters, .int a0_tape_length, .int a0_tape_place, .ref h_a0_tape_told, .int a0_tape_lettersTold, .int a0_tape_restTold])), (h_a0_tape_letters, .inl (cC, 130, .inl a0_tape_letters))]) rfl) hK (hD.sub [0, 4, 5] (by decide) rfl) gz_N0⟩ rfl rfl hl.1 rfl (lv_room (Nat.le_of_ble_eq_true rfl)) dL_lays_7 ⟨Nat.le_refl _, Nat.le_refl _⟩) hP hD hS hA [0, 4, 5] [1, 2, 3, 6, 7, 8] [6, 0, 1, 2, 7, 8, 3, 4, 5] rfl rfl (by decide) (by decide) (fun _ => rfl) (by decide) (fun r2 u H locs hf hP hD hS => ?_)
  obtain ⟨y3, y4⟩ := u
  have hP : va_P (dC, dI) vwCl [(h_a0, .inr (7, [.ref h_a0_book, .ref h_a0_kept, .int a0_hasImage, .ref h_a0_tape, .ref h_a0_search, .ref h_a0_shade, .ref h_a0_sheets])), (h_a0_book, .inr (0, [.ref h_a0_book_now, .ref h_a0_book_past, .int a0_book_known])), (h_a0_book_now, .inr (6, [.ref h_a0_book_now_cells, .int a0_book_now_size, .int a0_book_now_most, .int a0_book_now_draw, .int a0_book_now_changes])), (h_a0_book_now_cells, .inl (cI, 48, .inl a0_book_now_cells)), (h_a0_tape, .inr (5, [.ref h_a0_tape_letters, .int y3, .int a0_tape_place, .ref h_a0_tape_told, .int a0_tape_lettersTold, .int a0_tape_restTold])), (h_a0_tape_letters, .inl (cC, 130, .inl y4)), (h_a0_tape_told, .inr (6, [.ref h_a0_tape_told_cells, .int a0_tape_told_size, .int a0_tape_told_most, .int a0_tape_told_draw, .int a0_tape_told_changes])), (h_a0_tape_told_cells, .inl (cI, 48, .inl a0_tape_told_cells)), (h_a1, .inl (cI, 51, .inl a1))] H := hP
  have hD : va_D A [(h_a0, .inr (7, [.ref h_a0_book, .ref h_a0_kept, .int a0_hasImage, .ref h_a0_tape, .ref h_a0_search, .ref h_a0_shade, .ref h_a0_sheets])), (h_a0_book, .inr (0, [.ref h_a0_book_now, .ref h_a0_book_past, .int a0_book_known])), (h_a0_book_now, .inr (6, [.ref h_a0_book_now_cells, .int a0_book_now_size, .int a0_book_now_most, .int a0_book_now_draw, .int a0_book_now_changes])), (h_a0_book_now_cells, .inl (cI, 48, .inl a0_book_now_cells)), (h_a0_tape, .inr (5, [.ref h_a0_tape_letters, .int y3, .int a0_tape_place, .ref h_a0_tape_told, .int a0_tape_lettersTold, .int a0_tape_restTold])), (h_a0_tape_letters, .inl (cC, 130, .inl y4)), (h_a0_tape_told, .inr (6, [.ref h_a0_tape_told_cells, .int a0_tape_told_size, .int a0_tape_told_most, .int a0_tape_told_draw, .int a0_tape_told_changes])), (h_a0_tape_told_cells, .inl (cI, 48, .inl a0_tape_told_cells)), (h_a1, .inl (cI, 51, .inl a1))] := hD
  refine lv_if_le (tgt := 17) hx hb dL_lays_10 (by decide) (fun hc34 => ?_) (fun hc34 => ?_)
  · have hf := hf.1 hc34
    refine lv_iconst (v := (0 : Int32)) hx hb dL_lays_17 (by decide) ?_
    exact L18 a0_book_known a0_book_now_size a0_book_now_most a0_book_now_draw a0_book_now_changes a0_book_now_cells y3 a0_tape_place a0_tape_lettersTold a0_tape_restTold y4 a0_tape_told_size a0_tape_told_most a0_tape_told_changes a0_tape_told_cells (0 : Int32) _ _ _ hf hP hD hS hl
  · have hf := hf.2 hc34
    refine lv_iconst (v := (1 : Int32)) hx hb dL_lays_13 (by decide) ?_
    refine lv_goto (tgt := 18) hx hb dL_lays_14 (by decide) ?_
    exact L18 a0_book_known a0_book_now_size a0_book_now_most a0_book_now_draw a0_book_now_changes a0_book_now_cells y3 a0_tape_place a0_tape_lettersTold a0_tape_restTold y4 a0_tape_told_size a0_tape_told_most a0_tape_told_changes a0_tape_told_cells (1 : Int32) _ _ _ hf hP hD hS hl
abbrev rm_L_value : Room := { frames := 0, cells := 0, slots := 0, locals := 0 }
set_option maxHeartbeats 4000000 in
set_option maxRecDepth 100000 in
theorem c_L_value (l : Launch) (dC : Nat → ClassId) (dI : Nat → Nat → Nat) (cI cJ cC cZ : ClassId) (sz : Nat) (x0 : Int32) (x1 : Int32) (Q : Int32 → Prop) (hw : p_L_value x0 x1 Q) : Met l yL_value wsL_value rm_L_value (va_Pc [.int x0, .int x1] (gz_B (dC, dI) (gz_T cI cJ cC cZ) [] sz [])) (va_Qi (fun (r : Int32) (u : Unit) => Q r) (fun u t => gz_E (dC, dI) (gz_T cI cJ cC cZ) (va_A [] sz) [] t) (va_A [] sz)) 0 0 (va_A [] sz) := by
  refine gz_mi (cc := cL_value) (maxL := 2) (plainFor_of_name (by decide +kernel)) rfl (Nat.le_of_ble_eq_true rfl) ?_
  intro p e s m below meth c A QQ ls hx hb hml hown0 hts hK hN hA hP hD hS hl ret
  have hown : s.vm.findClass RL = some m.cls := hown0
  have hl : lv_has ls 2 [(0, .int x0), (1, .int x1)] := hl
  have hf := hw
  refine lv_iload_n hx hb dL_value_0 rfl (lv_at hl 1 rfl) ?_
  refine lv_if_ne (tgt := 12) hx hb dL_value_1 (by decide) (fun hc3 => ?_) (fun hc3 => ?_)
  · have hf := hf.2 hc3
    refine lv_iload_n hx hb dL_value_12 rfl (lv_at hl 1 rfl) ?_
    refine lv_iconst (v := (1 : Int32)) hx hb dL_value_13 (by decide) ?_
    refine lv_icmp_ne (tgt := 27) hx hb dL_value_14 (by decide) (fun hc2 => ?_) (fun hc2 => ?_)
    · have hf := hf.2 hc2
      refine lv_iload_n hx hb dL_value_27 rfl (lv_at hl 1 rfl) ?_
      refine lv_iconst (v := (2 : Int32)) hx hb dL_value_28 (by decide) ?_
      refine lv_icmp_ne (tgt := 42) hx hb dL_value_29 (by decide) (fun hc1 => ?_) (fun hc1 => ?_)
      · have hf := hf.2 hc1
        refine lv_iload_n hx hb dL_value_42 rfl (lv_at hl 0 rfl) ?_
        refine lv_bipush (v := (8 : Int32)) hx hb dL_value_43 (by decide) ?_
        refine lv_irem hx hb dL_value_45 (by decide) ?_
        exact ret _ _ _ _ (x0 - x0 / (8 : Int32) * (8 : Int32)) () hf hP hD hS dL_value_46
      · have hf := hf.1 hc1
        refine lv_iload_n hx hb dL_value_32 rfl (lv_at hl 0 rfl) ?_
        refine lv_bipush (v := (8 : Int32)) hx hb dL_value_33 (by decide) ?_
        refine lv_idiv hx hb dL_value_35 (by decide) ?_
        refine lv_bipush (v := (8 : Int32)) hx hb dL_value_36 (by decide) ?_
        refine lv_irem hx hb dL_value_38 (by decide) ?_
        refine lv_goto (tgt := 46) hx hb dL_value_39 (by decide) ?_
        exact ret _ _ _ _ ((x0 / (8 : Int32)) - (x0 / (8 : Int32)) / (8 : Int32) * (8 : Int32)) () hf hP hD hS dL_value_46
    · have hf := hf.1 hc2
      refine lv_iload_n hx hb dL_value_17 rfl (lv_at hl 0 rfl) ?_
      refine lv_bipush (v := (64 : Int32)) hx hb dL_value_18 (by decide) ?_
      refine lv_idiv hx hb dL_value_20 (by decide) ?_
      refine lv_bipush (v := (8 : Int32)) hx hb dL_value_21 (by decide) ?_
      refine lv_irem hx hb dL_value_23 (by decide) ?_
      refine lv_goto (tgt := 46) hx hb dL_value_24 (by decide) ?_
      exact ret _ _ _ _ ((x0 / (64 : Int32)) - (x0 / (64 : Int32)) / (8 : Int32) * (8 : Int32)) () hf hP hD hS dL_value_46
  · have hf := hf.1 hc3
    refine lv_iload_n hx hb dL_value_4 rfl (lv_at hl 0 rfl) ?_
    refine lv_sipush (v := (512 : Int32)) hx hb dL_value_5 (by decide) ?_
    refine lv_idiv hx hb dL_value_8 (by decide) ?_
    refine lv_goto (tgt := 46) hx hb dL_value_9 (by decide) ?_
    exact ret _ _ _ _ (x0 / (512 : Int32)) () hf hP hD hS dL_value_46
abbrev rm_L_sum : Room := { frames := 0, cells := 0, slots := 0, locals := 0 }
set_option maxHeartbeats 4000000 in
set_option maxRecDepth 100000 in
theorem c_L_sum (l : Launch) (dC : Nat → ClassId) (dI : Nat → Nat → Nat) (cI cJ cC cZ : ClassId) (h_a0 : Nat) (sz : Nat) (a0 : Nat → Int32) (x1 : Int32) (x2 : Int32) (Q : Int32 → Prop) (hw : p_L_sum a0 x1 x2 Q) : Met l yL_sum wsL_sum rm_L_sum (va_Pc [.ref h_a0, .int x1, .int x2] (gz_B (dC, dI) (gz_T cI cJ cC cZ) [] sz [(h_a0, .inl (cI, 51, .inl a0))])) (va_Qi (fun (r : Int32) (u : Unit) => Q r) (fun u t => gz_E (dC, dI) (gz_T cI cJ cC cZ) (va_A [(h_a0, .inl (cI, 51, .inl a0))] sz) [(h_a0, .inl (cI, 51, .inl a0))] t) (va_A [(h_a0, .inl (cI, 51, .inl a0))] sz)) 0 0 (va_A [(h_a0, .inl (cI, 51, .inl a0))] sz) := by
  refine gz_mi (cc := cL_sum) (maxL := 4) (plainFor_of_name (by decide +kernel)) rfl (Nat.le_of_ble_eq_true rfl) ?_
  intro p e s m below meth c A QQ ls hx hb hml hown0 hts hK hN hA hP hD hS hl ret
  have hown : s.vm.findClass RL = some m.cls := hown0
  have hl : lv_has ls 4 [(0, .ref h_a0), (1, .int x1), (2, .int x2)] := hl
  have hf := hw
  refine lv_iconst (v := (3 : Int32)) hx hb dL_sum_0 (by decide) ?_
  refine lv_bipush (v := (6 : Int32)) hx hb dL_sum_1 (by decide) ?_
  refine lv_iload_n hx hb dL_sum_3 rfl (lv_at hl 1 rfl) ?_
  refine lv_imul hx hb dL_sum_4 ?_
  refine lv_iadd hx hb dL_sum_5 ?_
  refine lv_istore_n (lv' := [(3, .int ((3 : Int32) + ((6 : Int32) * x1))), (0, .ref h_a0), (1, .int x1), (2, .int x2)]) hx hb dL_sum_6 rfl hl (by decide) rfl (fun ls hl => ?_)
  refine lv_aload_n hx hb dL_sum_7 rfl (lv_at hl 1 rfl) ?_
  refine lv_iload_n hx hb dL_sum_8 rfl (lv_at hl 0 rfl) ?_
  obtain ⟨hb1, hf⟩ := hf
  refine va_iald hx hb hK hP 0 0 rfl rfl hb1 dL_sum_9 ?_
  refine lv_iload_n hx hb dL_sum_10 rfl (lv_at hl 3 rfl) ?_
  refine lv_sipush (v := (512 : Int32)) hx hb dL_sum_11 (by decide) ?_
  refine lv_idiv hx hb dL_sum_14 (by decide) ?_
  refine lv_imul hx hb dL_sum_15 ?_
  refine lv_aload_n hx hb dL_sum_16 rfl (lv_at hl 1 rfl) ?_
  refine lv_iload_n hx hb dL_sum_17 rfl (lv_at hl 0 rfl) ?_
  refine lv_iconst (v := (1 : Int32)) hx hb dL_sum_18 (by decide) ?_
  refine lv_iadd hx hb dL_sum_19 ?_
  obtain ⟨hb2, hf⟩ := hf
  refine va_iald hx hb hK hP 0 0 rfl rfl hb2 dL_sum_20 ?_
  refine lv_iload_n hx hb dL_sum_21 rfl (lv_at hl 3 rfl) ?_
  refine lv_bipush (v := (64 : Int32)) hx hb dL_sum_22 (by decide) ?_
  refine lv_idiv hx hb dL_sum_24 (by decide) ?_
  refine lv_bipush (v := (8 : Int32)) hx hb dL_sum_25 (by decide) ?_
  refine lv_irem hx hb dL_sum_27 (by decide) ?_
  refine lv_imul hx hb dL_sum_28 ?_
  refine lv_iadd hx hb dL_sum_29 ?_
  refine lv_aload_n hx hb dL_sum_30 rfl (lv_at hl 1 rfl) ?_
  refine lv_iload_n hx hb dL_sum_31 rfl (lv_at hl 0 rfl) ?_
  refine lv_iconst (v := (2 : Int32)) hx hb dL_sum_32 (by decide) ?_
  refine lv_iadd hx hb dL_sum_33 ?_
  obtain ⟨hb3, hf⟩ := hf
  refine va_iald hx hb hK hP 0 0 rfl rfl hb3 dL_sum_34 ?_
  refine lv_iload_n hx hb dL_sum_35 rfl (lv_at hl 3 rfl) ?_
  refine lv_bipush (v := (8 : Int32)) hx hb dL_sum_36 (by decide) ?_
  refine lv_idiv hx hb dL_sum_38 (by decide) ?_
  refine lv_bipush (v := (8 : Int32)) hx hb dL_sum_39 (by decide) ?_
  refine lv_irem hx hb dL_sum_41 (by decide) ?_
  refine lv_imul hx hb dL_sum_42 ?_
  refine lv_iadd hx hb dL_sum_43 ?_
  refine lv_aload_n hx hb dL_sum_44 rfl (lv_at hl 1 rfl) ?_
  refine lv_iload_n hx hb dL_sum_45 rfl (lv_at hl 0 rfl) ?_
  refine lv_iconst (v := (3 : Int32)) hx hb dL_sum_46 (by decide) ?_
  refine lv_iadd hx hb dL_sum_47 ?_
  obtain ⟨hb4, hf⟩ := hf
  refine va_iald hx hb hK hP 0 0 rfl rfl hb4 dL_sum_48 ?_
  refine lv_iload_n hx hb dL_sum_49 rfl (lv_at hl 3 rfl) ?_
  refine lv_bipush (v := (8 : Int32)) hx hb dL_sum_50 (by decide) ?_
  refine lv_irem hx hb dL_sum_52 (by decide) ?_
  refine lv_imul hx hb dL_sum_53 ?_
  refine lv_iadd hx hb dL_sum_54 ?_
  refine lv_aload_n hx hb dL_sum_55 rfl (lv_at hl 1 rfl) ?_
  refine lv_iload_n hx hb dL_sum_56 rfl (lv_at hl 0 rfl) ?_
  refine lv_iconst (v := (4 : Int32)) hx hb dL_sum_57 (by decide) ?_
  refine lv_iadd hx hb dL_sum_58 ?_
  obtain ⟨hb5, hf⟩ := hf
  refine va_iald hx hb hK hP 0 0 rfl rfl hb5 dL_sum_59 ?_
  refine lv_iadd hx hb dL_sum_60 ?_
  exact ret _ _ _ _ ((((((a0 ((3 : Int32) + ((6 : Int32) * x1)).toNatClampNeg) * (x2 / (512 : Int32))) + ((a0 (((3 : Int32) + ((6 : Int32) * x1)) + (1 : Int32)).toNatClampNeg) * ((x2 / (64 : Int32)) - (x2 / (64 : Int32)) / (8 : Int32) * (8 : Int32)))) + ((a0 (((3 : Int32) + ((6 : Int32) * x1)) + (2 : Int32)).toNatClampNeg) * ((x2 / (8 : Int32)) - (x2 / (8 : Int32)) / (8 : Int32) * (8 : Int32)))) + ((a0 (((3 : Int32) + ((6 : Int32) * x1)) + (3 : Int32)).toNatClampNeg) * (x2 - x2 / (8 : Int32) * (8 : Int32)))) + (a0 (((3 : Int32) + ((6 : Int32) * x1)) + (4 : Int32)).toNatClampNeg)) () hf hP hD hS dL_sum_61
abbrev rm_L_so : Room := { frames := 0, cells := 0, slots := 0, locals := 0 }
set_option maxHeartbeats 4000000 in
set_option maxRecDepth 100000 in
theorem c_L_so (l : Launch) (dC : Nat → ClassId) (dI : Nat → Nat → Nat) (cI cJ cC cZ : ClassId) (sz : Nat) (x0 : Int32) (x1 : Int32) (Q : Int32 → Prop) (hw : p_L_so x0 x1 Q) : Met l yL_so wsL_so rm_L_so (va_Pc [.int x0, .int x1] (gz_B (dC, dI) (gz_T cI cJ cC cZ) [] sz [])) (va_Qi (fun (r : Int32) (u : Unit) => Q r) (fun u t => gz_E (dC, dI) (gz_T cI cJ cC cZ) (va_A [] sz) [] t) (va_A [] sz)) 0 0 (va_A [] sz) := by
  refine gz_mz (cc := cL_so) (maxL := 2) (plainFor_of_name (by decide +kernel)) rfl (Nat.le_of_ble_eq_true rfl) ?_
  intro p e s m below meth c A QQ ls hx hb hml hown0 hts hK hN hA hP hD hS hl ret
  have hown : s.vm.findClass RL = some m.cls := hown0
  have hl : lv_has ls 2 [(0, .int x0), (1, .int x1)] := hl
  have hf := hw
  refine lv_iload_n hx hb dL_so_0 rfl (lv_at hl 0 rfl) ?_
  refine lv_if_ne (tgt := 17) hx hb dL_so_1 (by decide) (fun hc9 => ?_) (fun hc9 => ?_)
  · have hf := hf.2 hc9
    refine lv_iload_n hx hb dL_so_17 rfl (lv_at hl 0 rfl) ?_
    refine lv_iconst (v := (1 : Int32)) hx hb dL_so_18 (by decide) ?_
    refine lv_icmp_ne (tgt := 35) hx hb dL_so_19 (by decide) (fun hc7 => ?_) (fun hc7 => ?_)
    · have hf := hf.2 hc7
      refine lv_iload_n hx hb dL_so_35 rfl (lv_at hl 0 rfl) ?_
      refine lv_iconst (v := (2 : Int32)) hx hb dL_so_36 (by decide) ?_
      refine lv_icmp_ne (tgt := 52) hx hb dL_so_37 (by decide) (fun hc5 => ?_) (fun hc5 => ?_)
      · have hf := hf.2 hc5
        refine lv_iload_n hx hb dL_so_52 rfl (lv_at hl 0 rfl) ?_
        refine lv_iconst (v := (3 : Int32)) hx hb dL_so_53 (by decide) ?_
        refine lv_icmp_ne (tgt := 69) hx hb dL_so_54 (by decide) (fun hc3 => ?_) (fun hc3 => ?_)
        · have hf := hf.2 hc3
          refine lv_iload_n hx hb dL_so_69 rfl (lv_at hl 1 rfl) ?_
          refine lv_iconst (v := (1 : Int32)) hx hb dL_so_70 (by decide) ?_
          refine lv_iand hx hb dL_so_71 ?_
          refine lv_if_ne (tgt := 79) hx hb dL_so_72 (by decide) (fun hc1 => ?_) (fun hc1 => ?_)
          · have hf := hf.2 hc1
            refine lv_iconst (v := (0 : Int32)) hx hb dL_so_79 (by decide) ?_
            exact ret _ _ _ _ (0 : Int32) () rfl hf hP hD hS dL_so_80
          · have hf := hf.1 hc1
            refine lv_iconst (v := (1 : Int32)) hx hb dL_so_75 (by decide) ?_
            refine lv_goto (tgt := 80) hx hb dL_so_76 (by decide) ?_
            exact ret _ _ _ _ (1 : Int32) () rfl hf hP hD hS dL_so_80
        · have hf := hf.1 hc3
          refine lv_iload_n hx hb dL_so_57 rfl (lv_at hl 1 rfl) ?_
          refine lv_if_eq (tgt := 65) hx hb dL_so_58 (by decide) (fun hc2 => ?_) (fun hc2 => ?_)
          · have hf := hf.1 hc2
            refine lv_iconst (v := (0 : Int32)) hx hb dL_so_65 (by decide) ?_
            refine lv_goto (tgt := 80) hx hb dL_so_66 (by decide) ?_
            exact ret _ _ _ _ (0 : Int32) () rfl hf hP hD hS dL_so_80
          · have hf := hf.2 hc2
            refine lv_iconst (v := (1 : Int32)) hx hb dL_so_61 (by decide) ?_
            refine lv_goto (tgt := 80) hx hb dL_so_62 (by decide) ?_
            exact ret _ _ _ _ (1 : Int32) () rfl hf hP hD hS dL_so_80
      · have hf := hf.1 hc5
        refine lv_iload_n hx hb dL_so_40 rfl (lv_at hl 1 rfl) ?_
        refine lv_if_ne (tgt := 48) hx hb dL_so_41 (by decide) (fun hc4 => ?_) (fun hc4 => ?_)
        · have hf := hf.2 hc4
          refine lv_iconst (v := (0 : Int32)) hx hb dL_so_48 (by decide) ?_
          refine lv_goto (tgt := 80) hx hb dL_so_49 (by decide) ?_
          exact ret _ _ _ _ (0 : Int32) () rfl hf hP hD hS dL_so_80
        · have hf := hf.1 hc4
          refine lv_iconst (v := (1 : Int32)) hx hb dL_so_44 (by decide) ?_
          refine lv_goto (tgt := 80) hx hb dL_so_45 (by decide) ?_
          exact ret _ _ _ _ (1 : Int32) () rfl hf hP hD hS dL_so_80
    · have hf := hf.1 hc7
      refine lv_iload_n hx hb dL_so_22 rfl (lv_at hl 1 rfl) ?_
      refine lv_iconst (v := (1 : Int32)) hx hb dL_so_23 (by decide) ?_
      refine lv_icmp_ge (tgt := 31) hx hb dL_so_24 (by decide) (fun hc6 => ?_) (fun hc6 => ?_)
      · have hf := hf.1 hc6
        refine lv_iconst (v := (0 : Int32)) hx hb dL_so_31 (by decide) ?_
        refine lv_goto (tgt := 80) hx hb dL_so_32 (by decide) ?_
        exact ret _ _ _ _ (0 : Int32) () rfl hf hP hD hS dL_so_80
      · have hf := hf.2 hc6
        refine lv_iconst (v := (1 : Int32)) hx hb dL_so_27 (by decide) ?_
        refine lv_goto (tgt := 80) hx hb dL_so_28 (by decide) ?_
        exact ret _ _ _ _ (1 : Int32) () rfl hf hP hD hS dL_so_80
  · have hf := hf.1 hc9
    refine lv_iload_n hx hb dL_so_4 rfl (lv_at hl 1 rfl) ?_
    refine lv_iconst (v := (-1 : Int32)) hx hb dL_so_5 (by decide) ?_
    refine lv_icmp_le (tgt := 13) hx hb dL_so_6 (by decide) (fun hc8 => ?_) (fun hc8 => ?_)
    · have hf := hf.1 hc8
      refine lv_iconst (v := (0 : Int32)) hx hb dL_so_13 (by decide) ?_
      refine lv_goto (tgt := 80) hx hb dL_so_14 (by decide) ?_
      exact ret _ _ _ _ (0 : Int32) () rfl hf hP hD hS dL_so_80
    · have hf := hf.2 hc8
      refine lv_iconst (v := (1 : Int32)) hx hb dL_so_9 (by decide) ?_
      refine lv_goto (tgt := 80) hx hb dL_so_10 (by decide) ?_
      exact ret _ _ _ _ (1 : Int32) () rfl hf hP hD hS dL_so_80
abbrev rm_L_hold : Room := { frames := 1, cells := 0, slots := 0, locals := 23 }
set_option maxHeartbeats 4000000 in
set_option maxRecDepth 100000 in
theorem c_L_hold (l : Launch) (dC : Nat → ClassId) (dI : Nat → Nat → Nat) (cI cJ cC cZ : ClassId) (h_a0 : Nat) (sz : Nat) (a0 : Nat → Int32) (x1 : Int32) (Q : Int32 → Prop) (hw : p_L_hold a0 x1 Q) : Met l yL_hold wsL_hold rm_L_hold (va_Pc [.ref h_a0, .int x1] (gz_B (dC, dI) (gz_T cI cJ cC cZ) [] sz [(h_a0, .inl (cI, 51, .inl a0))])) (va_Qi (fun (r : Int32) (u : Unit) => Q r) (fun u t => gz_E (dC, dI) (gz_T cI cJ cC cZ) (va_A [(h_a0, .inl (cI, 51, .inl a0))] sz) [(h_a0, .inl (cI, 51, .inl a0))] t) (va_A [(h_a0, .inl (cI, 51, .inl a0))] sz)) 0 0 (va_A [(h_a0, .inl (cI, 51, .inl a0))] sz) := by
  refine gz_mi (cc := cL_hold) (maxL := 4) (plainFor_of_name (by decide +kernel)) rfl (Nat.le_of_ble_eq_true rfl) ?_
  intro p e s m below meth c A QQ ls hx hb hml hown0 hts hK hN hA hP hD hS hl ret
  have hown : s.vm.findClass RL = some m.cls := hown0
  have hl : lv_has ls 4 [(0, .ref h_a0), (1, .int x1)] := hl
  have L4 : ∀ (n : Nat) (x2 : Int32) (x3 : Int32) (H : Heap) (locs : List Loc) (ls : Array Slot), gi2 (p_L_hold_4 a0 x1 Q) n x2 x3 → va_P (dC, dI) vwCl [(h_a0, .inl (cI, 51, .inl a0))] H → va_D A [(h_a0, .inl (cI, 51, .inl a0))] → va_S A s.heap H locs → lv_has ls 4 [(0, .ref h_a0), (1, .int x1), (2, .int x2), (3, .int x3)] → W p l e rm_L_hold s m [.ref h_a0, .int x1].toArray below meth c H locs 0 0 QQ (F0 m 4 ls []) := by
    intro  n
    induction n with
    | zero => intro x2 x3 H locs ls hf; exact False.elim hf
    | succ n ih4 =>
      generalize hK4 : gi2 (p_L_hold_4 a0 x1 Q) n = K4 at ih4
      have L40 : ∀ (x3 : Int32) (s0 : Int32) (s1 : Int32) (H : Heap) (locs : List Loc) (ls : Array Slot), p_L_hold_40 x3 s0 s1 K4 → va_P (dC, dI) vwCl [(h_a0, .inl (cI, 51, .inl a0))] H → va_D A [(h_a0, .inl (cI, 51, .inl a0))] → va_S A s.heap H locs → lv_has ls 4 [(0, .ref h_a0), (1, .int x1), (3, .int x3)] → W p l e rm_L_hold s m [.ref h_a0, .int x1].toArray below meth c H locs 0 0 QQ (F0 m 40 ls [.int s1, .int s0]) := by
        intro x3 s0 s1 H locs ls hf hP hD hS hl
        refine lv_ior hx hb dL_hold_40 ?_
        refine lv_istore_n (lv' := [(2, .int (s0 ||| s1)), (0, .ref h_a0), (1, .int x1), (3, .int x3)]) hx hb dL_hold_41 rfl hl (by decide) rfl (fun ls hl => ?_)
        refine lv_iinc (v := (x3 + (1 : Int32))) (lv' := [(3, .int (x3 + (1 : Int32))), (2, .int (s0 ||| s1)), (0, .ref h_a0), (1, .int x1)]) hx hb dL_hold_42 hl (k := 3) rfl rfl (by decide) rfl (fun ls hl => ?_)
        refine lv_goto (tgt := 4) hx hb dL_hold_45 (by decide) ?_
        exact ih4 (s0 ||| s1) (x3 + (1 : Int32)) _ _ _ hf hP hD hS (lv_sub hl [2, 3, 1, 0] rfl)
      intro x2 x3 H locs ls hf hP hD hS hl
      have hf : p_L_hold_4 a0 x1 Q (gi2 (p_L_hold_4 a0 x1 Q) n) x2 x3 := hf
      rw [hK4] at hf
      refine lv_iload_n hx hb dL_hold_4 rfl (lv_at hl 3 rfl) ?_
      refine lv_aload_n hx hb dL_hold_5 rfl (lv_at hl 0 rfl) ?_
      refine lv_iconst (v := (0 : Int32)) hx hb dL_hold_6 (by decide) ?_
      obtain ⟨hb1, hf⟩ := hf
      refine va_iald hx hb hK hP 0 0 rfl rfl hb1 dL_hold_7 ?_
      refine lv_icmp_ge (tgt := 48) hx hb dL_hold_8 (by decide) (fun hc6 => ?_) (fun hc6 => ?_)
      · have hf := hf.1 hc6
        refine lv_iload_n hx hb dL_hold_48 rfl (lv_at hl 2 rfl) ?_
        exact ret _ _ _ _ x2 () hf hP hD hS dL_hold_49
      · have hf := hf.2 hc6
        refine lv_iload_n hx hb dL_hold_11 rfl (lv_at hl 2 rfl) ?_
        refine lv_aload_n hx hb dL_hold_12 rfl (lv_at hl 0 rfl) ?_
        refine lv_bipush (v := (8 : Int32)) hx hb dL_hold_13 (by decide) ?_
        refine lv_bipush (v := (6 : Int32)) hx hb dL_hold_15 (by decide) ?_
        refine lv_iload_n hx hb dL_hold_17 rfl (lv_at hl 3 rfl) ?_
        refine lv_imul hx hb dL_hold_18 ?_
        refine lv_iadd hx hb dL_hold_19 ?_
        obtain ⟨hb2, hf⟩ := hf
        refine va_iald hx hb hK hP 0 0 rfl rfl hb2 dL_hold_20 ?_
        refine lv_aload_n hx hb dL_hold_21 rfl (lv_at hl 0 rfl) ?_
        refine lv_iload_n hx hb dL_hold_22 rfl (lv_at hl 3 rfl) ?_
        refine lv_iload_n hx hb dL_hold_23 rfl (lv_at hl 1 rfl) ?_
        refine gz_iR (va_runS (As := [.ref h_a0, .int x3, .int x1]) (rest := [.int (a0 ((8 : Int32) + ((6 : Int32) * x3)).toNatClampNeg), .int x2]) ⟨hx, hb, hml, hown, hts⟩ (c_L_sum l dC dI cI cJ cC cZ h_a0 H.size a0 x3 x1 _ hf) (va_cwS 3 hts gL_hold_L_sum rfl rfl rfl (by decide +kernel) ⟨Nat.le_of_ble_eq_true rfl, Nat.le_of_ble_eq_true rfl⟩) ⟨gz_blind, gz_pre (gz_P_of hP (is := [0]) (wc := [(h_a0, .inl (cI, 51, .inl a0))]) rfl) hK (hD.sub [0] (by decide) rfl) gz_N0⟩ rfl rfl hl.1 rfl (lv_room (Nat.le_of_ble_eq_true rfl)) dL_hold_24 ⟨Nat.le_refl _, Nat.le_refl _⟩) hP hD hS hA [0] rfl (fun r3 H locs hf hP hS => ?_)
        refine gz_i0 (va_runS (As := [.int (a0 ((8 : Int32) + ((6 : Int32) * x3)).toNatClampNeg), .int r3]) (rest := [.int x2]) ⟨hx, hb, hml, hown, hts⟩ (c_L_so l dC dI cI cJ cC cZ H.size (a0 ((8 : Int32) + ((6 : Int32) * x3)).toNatClampNeg) r3 _ hf) (va_cwS 2 hts gL_hold_L_so rfl rfl rfl (by decide +kernel) ⟨Nat.le_of_ble_eq_true rfl, Nat.le_of_ble_eq_true rfl⟩) ⟨gz_blind, gz_pre (gz_P_of hP (is := []) (wc := []) rfl) hK (hD.sub [] (by decide) rfl) gz_N0⟩ rfl rfl hl.1 rfl (lv_room (Nat.le_of_ble_eq_true rfl)) dL_hold_27 ⟨Nat.le_refl _, Nat.le_refl _⟩) hP hD hS hA (fun r4 H locs hf hP hS => ?_)
        refine lv_if_eq (tgt := 39) hx hb dL_hold_30 (by decide) (fun hc5 => ?_) (fun hc5 => ?_)
        · have hf := hf.1 hc5
          refine lv_iconst (v := (0 : Int32)) hx hb dL_hold_39 (by decide) ?_
          exact L40 x3 x2 (0 : Int32) _ _ _ hf hP hD hS (lv_sub hl [0, 1, 3] rfl)
        · have hf := hf.2 hc5
          refine lv_iconst (v := (1 : Int32)) hx hb dL_hold_33 (by decide) ?_
          refine lv_iload_n hx hb dL_hold_34 rfl (lv_at hl 3 rfl) ?_
          refine lv_ishl hx hb dL_hold_35 ?_
          refine lv_goto (tgt := 40) hx hb dL_hold_36 (by decide) ?_
          exact L40 x3 x2 ((1 : Int32) <<< (x3 &&& 31)) _ _ _ hf hP hD hS (lv_sub hl [0, 1, 3] rfl)
  have hf := hw
  refine lv_iconst (v := (0 : Int32)) hx hb dL_hold_0 (by decide) ?_
  refine lv_istore_n (lv' := [(2, .int (0 : Int32)), (0, .ref h_a0), (1, .int x1)]) hx hb dL_hold_1 rfl hl (by decide) rfl (fun ls hl => ?_)
  refine lv_iconst (v := (0 : Int32)) hx hb dL_hold_2 (by decide) ?_
  refine lv_istore_n (lv' := [(3, .int (0 : Int32)), (2, .int (0 : Int32)), (0, .ref h_a0), (1, .int x1)]) hx hb dL_hold_3 rfl hl (by decide) rfl (fun ls hl => ?_)
  obtain ⟨n, hf⟩ := hf
  exact L4  n (0 : Int32) (0 : Int32) _ _ _ hf hP hD hS (lv_sub hl [2, 3, 1, 0] rfl)
abbrev rm_L_next : Room := { frames := 0, cells := 0, slots := 0, locals := 0 }
set_option maxHeartbeats 4000000 in
set_option maxRecDepth 100000 in
theorem c_L_next (l : Launch) (dC : Nat → ClassId) (dI : Nat → Nat → Nat) (cI cJ cC cZ : ClassId) (h_a0 : Nat) (sz : Nat) (a0 : Nat → Int32) (x1 : Int32) (Q : Int32 → Prop) (hw : p_L_next a0 x1 Q) : Met l yL_next wsL_next rm_L_next (va_Pc [.ref h_a0, .int x1] (gz_B (dC, dI) (gz_T cI cJ cC cZ) [] sz [(h_a0, .inl (cI, 51, .inl a0))])) (va_Qi (fun (r : Int32) (u : Unit) => Q r) (fun u t => gz_E (dC, dI) (gz_T cI cJ cC cZ) (va_A [(h_a0, .inl (cI, 51, .inl a0))] sz) [(h_a0, .inl (cI, 51, .inl a0))] t) (va_A [(h_a0, .inl (cI, 51, .inl a0))] sz)) 0 0 (va_A [(h_a0, .inl (cI, 51, .inl a0))] sz) := by
  refine gz_mi (cc := cL_next) (maxL := 3) (plainFor_of_name (by decide +kernel)) rfl (Nat.le_of_ble_eq_true rfl) ?_
  intro p e s m below meth c A QQ ls hx hb hml hown0 hts hK hN hA hP hD hS hl ret
  have hown : s.vm.findClass RL = some m.cls := hown0
  have hl : lv_has ls 3 [(0, .ref h_a0), (1, .int x1)] := hl
  have L4 : ∀ (n : Nat) (x2 : Int32) (H : Heap) (locs : List Loc) (ls : Array Slot), gi1 (p_L_next_4 a0 Q) n x2 → va_P (dC, dI) vwCl [(h_a0, .inl (cI, 51, .inl a0))] H → va_D A [(h_a0, .inl (cI, 51, .inl a0))] → va_S A s.heap H locs → lv_has ls 3 [(0, .ref h_a0), (2, .int x2)] → W p l e rm_L_next s m [.ref h_a0, .int x1].toArray below meth c H locs 0 0 QQ (F0 m 4 ls []) := by
    intro  n
    induction n with
    | zero => intro x2 H locs ls hf; exact False.elim hf
    | succ n ih4 =>
      generalize hK4 : gi1 (p_L_next_4 a0 Q) n = K4 at ih4
      have L58 : ∀ (x2 : Int32) (H : Heap) (locs : List Loc) (ls : Array Slot), p_L_next_58 x2 K4 → va_P (dC, dI) vwCl [(h_a0, .inl (cI, 51, .inl a0))] H → va_D A [(h_a0, .inl (cI, 51, .inl a0))] → va_S A s.heap H locs → lv_has ls 3 [(0, .ref h_a0), (2, .int x2)] → W p l e rm_L_next s m [.ref h_a0, .int x1].toArray below meth c H locs 0 0 QQ (F0 m 58 ls []) := by
        intro x2 H locs ls hf hP hD hS hl
        refine lv_iinc (v := (x2 + (1 : Int32))) (lv' := [(2, .int (x2 + (1 : Int32))), (0, .ref h_a0)]) hx hb dL_next_58 hl (k := 1) rfl rfl (by decide) rfl (fun ls hl => ?_)
        refine lv_goto (tgt := 4) hx hb dL_next_61 (by decide) ?_
        exact ih4 (x2 + (1 : Int32)) _ _ _ hf hP hD hS (lv_sub hl [1, 0] rfl)
      intro x2 H locs ls hf hP hD hS hl
      have hf : p_L_next_4 a0 Q (gi1 (p_L_next_4 a0 Q) n) x2 := hf
      rw [hK4] at hf
      refine lv_iload_n hx hb dL_next_4 rfl (lv_at hl 1 rfl) ?_
      refine lv_sipush (v := (4096 : Int32)) hx hb dL_next_5 (by decide) ?_
      refine lv_icmp_ge (tgt := 64) hx hb dL_next_8 (by decide) (fun hc9 => ?_) (fun hc9 => ?_)
      · have hf := hf.1 hc9
        refine lv_iload_n hx hb dL_next_64 rfl (lv_at hl 1 rfl) ?_
        exact ret _ _ _ _ x2 () hf hP hD hS dL_next_65
      · have hf := hf.2 hc9
        refine lv_iload_n hx hb dL_next_11 rfl (lv_at hl 1 rfl) ?_
        refine lv_sipush (v := (512 : Int32)) hx hb dL_next_12 (by decide) ?_
        refine lv_idiv hx hb dL_next_15 (by decide) ?_
        refine lv_aload_n hx hb dL_next_16 rfl (lv_at hl 0 rfl) ?_
        refine lv_iconst (v := (1 : Int32)) hx hb dL_next_17 (by decide) ?_
        obtain ⟨hb1, hf⟩ := hf
        refine va_iald hx hb hK hP 0 0 rfl rfl hb1 dL_next_18 ?_
        refine lv_icmp_gt (tgt := 58) hx hb dL_next_19 (by decide) (fun hc8 => ?_) (fun hc8 => ?_)
        · have hf := hf.1 hc8
          exact L58 x2 _ _ _ hf hP hD hS hl
        · have hf := hf.2 hc8
          refine lv_iload_n hx hb dL_next_22 rfl (lv_at hl 1 rfl) ?_
          refine lv_bipush (v := (64 : Int32)) hx hb dL_next_23 (by decide) ?_
          refine lv_idiv hx hb dL_next_25 (by decide) ?_
          refine lv_bipush (v := (8 : Int32)) hx hb dL_next_26 (by decide) ?_
          refine lv_irem hx hb dL_next_28 (by decide) ?_
          refine lv_aload_n hx hb dL_next_29 rfl (lv_at hl 0 rfl) ?_
          refine lv_iconst (v := (1 : Int32)) hx hb dL_next_30 (by decide) ?_
          obtain ⟨hb2, hf⟩ := hf
          refine va_iald hx hb hK hP 0 0 rfl rfl hb2 dL_next_31 ?_
          refine lv_icmp_gt (tgt := 58) hx hb dL_next_32 (by decide) (fun hc7 => ?_) (fun hc7 => ?_)
          · have hf := hf.1 hc7
            exact L58 x2 _ _ _ hf hP hD hS hl
          · have hf := hf.2 hc7
            refine lv_iload_n hx hb dL_next_35 rfl (lv_at hl 1 rfl) ?_
            refine lv_bipush (v := (8 : Int32)) hx hb dL_next_36 (by decide) ?_
            refine lv_idiv hx hb dL_next_38 (by decide) ?_
            refine lv_bipush (v := (8 : Int32)) hx hb dL_next_39 (by decide) ?_
            refine lv_irem hx hb dL_next_41 (by decide) ?_
            refine lv_aload_n hx hb dL_next_42 rfl (lv_at hl 0 rfl) ?_
            refine lv_iconst (v := (1 : Int32)) hx hb dL_next_43 (by decide) ?_
            obtain ⟨hb3, hf⟩ := hf
            refine va_iald hx hb hK hP 0 0 rfl rfl hb3 dL_next_44 ?_
            refine lv_icmp_gt (tgt := 58) hx hb dL_next_45 (by decide) (fun hc6 => ?_) (fun hc6 => ?_)
            · have hf := hf.1 hc6
              exact L58 x2 _ _ _ hf hP hD hS hl
            · have hf := hf.2 hc6
              refine lv_iload_n hx hb dL_next_48 rfl (lv_at hl 1 rfl) ?_
              refine lv_bipush (v := (8 : Int32)) hx hb dL_next_49 (by decide) ?_
              refine lv_irem hx hb dL_next_51 (by decide) ?_
              refine lv_aload_n hx hb dL_next_52 rfl (lv_at hl 0 rfl) ?_
              refine lv_iconst (v := (1 : Int32)) hx hb dL_next_53 (by decide) ?_
              obtain ⟨hb4, hf⟩ := hf
              refine va_iald hx hb hK hP 0 0 rfl rfl hb4 dL_next_54 ?_
              refine lv_icmp_le (tgt := 64) hx hb dL_next_55 (by decide) (fun hc5 => ?_) (fun hc5 => ?_)
              · have hf := hf.1 hc5
                refine lv_iload_n hx hb dL_next_64 rfl (lv_at hl 1 rfl) ?_
                exact ret _ _ _ _ x2 () hf hP hD hS dL_next_65
              · have hf := hf.2 hc5
                exact L58 x2 _ _ _ hf hP hD hS hl
  have hf := hw
  refine lv_iload_n hx hb dL_next_0 rfl (lv_at hl 1 rfl) ?_
  refine lv_iconst (v := (1 : Int32)) hx hb dL_next_1 (by decide) ?_
  refine lv_iadd hx hb dL_next_2 ?_
  refine lv_istore_n (lv' := [(2, .int (x1 + (1 : Int32))), (0, .ref h_a0), (1, .int x1)]) hx hb dL_next_3 rfl hl (by decide) rfl (fun ls hl => ?_)
  obtain ⟨n, hf⟩ := hf
  exact L4  n (x1 + (1 : Int32)) _ _ _ hf hP hD hS (lv_sub hl [1, 0] rfl)
abbrev rm_L_points : Room := { frames := 2, cells := 0, slots := 0, locals := 46 }
set_option maxHeartbeats 4000000 in
set_option maxRecDepth 100000 in
theorem c_L_points (l : Launch) (dC : Nat → ClassId) (dI : Nat → Nat → Nat) (cI cJ cC cZ : ClassId) (h_a0 : Nat) (sz : Nat) (a0 : Nat → Int32) (x1 : Int32) (Q : Int32 → Prop) (hw : p_L_points a0 x1 Q) : Met l yL_points wsL_points rm_L_points (va_Pc [.ref h_a0, .int x1] (gz_B (dC, dI) (gz_T cI cJ cC cZ) [] sz [(h_a0, .inl (cI, 51, .inl a0))])) (va_Qi (fun (r : Int32) (u : Unit) => Q r) (fun u t => gz_E (dC, dI) (gz_T cI cJ cC cZ) (va_A [(h_a0, .inl (cI, 51, .inl a0))] sz) [(h_a0, .inl (cI, 51, .inl a0))] t) (va_A [(h_a0, .inl (cI, 51, .inl a0))] sz)) 0 0 (va_A [(h_a0, .inl (cI, 51, .inl a0))] sz) := by
  refine gz_mi (cc := cL_points) (maxL := 4) (plainFor_of_name (by decide +kernel)) rfl (Nat.le_of_ble_eq_true rfl) ?_
  intro p e s m below meth c A QQ ls hx hb hml hown0 hts hK hN hA hP hD hS hl ret
  have hown : s.vm.findClass RL = some m.cls := hown0
  have hl : lv_has ls 4 [(0, .ref h_a0), (1, .int x1)] := hl
  have L8 : ∀ (n : Nat) (x2 : Int32) (x3 : Int32) (H : Heap) (locs : List Loc) (ls : Array Slot), gi2 (p_L_points_8 a0 x1 Q) n x2 x3 → va_P (dC, dI) vwCl [(h_a0, .inl (cI, 51, .inl a0))] H → va_D A [(h_a0, .inl (cI, 51, .inl a0))] → va_S A s.heap H locs → lv_has ls 4 [(0, .ref h_a0), (1, .int x1), (2, .int x2), (3, .int x3)] → W p l e rm_L_points s m [.ref h_a0, .int x1].toArray below meth c H locs 0 0 QQ (F0 m 8 ls []) := by
    intro  n
    induction n with
    | zero => intro x2 x3 H locs ls hf; exact False.elim hf
    | succ n ih8 =>
      generalize hK8 : gi2 (p_L_points_8 a0 x1 Q) n = K8 at ih8
      have L32 : ∀ (x3 : Int32) (s0 : Int32) (s1 : Int32) (H : Heap) (locs : List Loc) (ls : Array Slot), p_L_points_32 a0 x3 s0 s1 K8 → va_P (dC, dI) vwCl [(h_a0, .inl (cI, 51, .inl a0))] H → va_D A [(h_a0, .inl (cI, 51, .inl a0))] → va_S A s.heap H locs → lv_has ls 4 [(0, .ref h_a0), (1, .int x1), (3, .int x3)] → W p l e rm_L_points s m [.ref h_a0, .int x1].toArray below meth c H locs 0 0 QQ (F0 m 32 ls [.int s1, .int s0]) := by
        intro x3 s0 s1 H locs ls hf hP hD hS hl
        refine lv_iadd hx hb dL_points_32 ?_
        refine lv_istore_n (lv' := [(2, .int (s0 + s1)), (0, .ref h_a0), (1, .int x1), (3, .int x3)]) hx hb dL_points_33 rfl hl (by decide) rfl (fun ls hl => ?_)
        refine lv_aload_n hx hb dL_points_34 rfl (lv_at hl 1 rfl) ?_
        refine lv_iload_n hx hb dL_points_35 rfl (lv_at hl 3 rfl) ?_
        refine gz_iR (va_runS (As := [.ref h_a0, .int x3]) (rest := []) ⟨hx, hb, hml, hown, hts⟩ (c_L_next l dC dI cI cJ cC cZ h_a0 H.size a0 x3 _ hf) (va_cwS 2 hts gL_points_L_next rfl rfl rfl (by decide +kernel) ⟨Nat.le_of_ble_eq_true rfl, Nat.le_of_ble_eq_true rfl⟩) ⟨gz_blind, gz_pre (gz_P_of hP (is := [0]) (wc := [(h_a0, .inl (cI, 51, .inl a0))]) rfl) hK (hD.sub [0] (by decide) rfl) gz_N0⟩ rfl rfl hl.1 rfl (lv_room (Nat.le_of_ble_eq_true rfl)) dL_points_36 ⟨Nat.le_refl _, Nat.le_refl _⟩) hP hD hS hA [0] rfl (fun r3 H locs hf hP hS => ?_)
        refine lv_istore_n (lv' := [(3, .int r3), (2, .int (s0 + s1)), (0, .ref h_a0), (1, .int x1)]) hx hb dL_points_39 rfl hl (by decide) rfl (fun ls hl => ?_)
        refine lv_goto (tgt := 8) hx hb dL_points_40 (by decide) ?_
        exact ih8 (s0 + s1) r3 _ _ _ hf hP hD hS (lv_sub hl [2, 3, 1, 0] rfl)
      intro x2 x3 H locs ls hf hP hD hS hl
      have hf : p_L_points_8 a0 x1 Q (gi2 (p_L_points_8 a0 x1 Q) n) x2 x3 := hf
      rw [hK8] at hf
      refine lv_iload_n hx hb dL_points_8 rfl (lv_at hl 3 rfl) ?_
      refine lv_sipush (v := (4096 : Int32)) hx hb dL_points_9 (by decide) ?_
      refine lv_icmp_ge (tgt := 43) hx hb dL_points_12 (by decide) (fun hc5 => ?_) (fun hc5 => ?_)
      · have hf := hf.1 hc5
        refine lv_iload_n hx hb dL_points_43 rfl (lv_at hl 2 rfl) ?_
        exact ret _ _ _ _ x2 () hf hP hD hS dL_points_44
      · have hf := hf.2 hc5
        refine lv_iload_n hx hb dL_points_15 rfl (lv_at hl 2 rfl) ?_
        refine lv_aload_n hx hb dL_points_16 rfl (lv_at hl 0 rfl) ?_
        refine lv_iload_n hx hb dL_points_17 rfl (lv_at hl 3 rfl) ?_
        refine gz_iR (va_runS (As := [.ref h_a0, .int x3]) (rest := [.int x2]) ⟨hx, hb, hml, hown, hts⟩ (c_L_hold l dC dI cI cJ cC cZ h_a0 H.size a0 x3 _ hf) (va_cwS 2 hts gL_points_L_hold rfl rfl rfl (by decide +kernel) ⟨Nat.le_of_ble_eq_true rfl, Nat.le_of_ble_eq_true rfl⟩) ⟨gz_blind, gz_pre (gz_P_of hP (is := [0]) (wc := [(h_a0, .inl (cI, 51, .inl a0))]) rfl) hK (hD.sub [0] (by decide) rfl) gz_N0⟩ rfl rfl hl.1 rfl (lv_room (Nat.le_of_ble_eq_true rfl)) dL_points_18 ⟨Nat.le_refl _, Nat.le_refl _⟩) hP hD hS hA [0] rfl (fun r2 H locs hf hP hS => ?_)
        refine lv_iload_n hx hb dL_points_21 rfl (lv_at hl 1 rfl) ?_
        refine lv_iand hx hb dL_points_22 ?_
        refine lv_iload_n hx hb dL_points_23 rfl (lv_at hl 1 rfl) ?_
        refine lv_icmp_ne (tgt := 31) hx hb dL_points_24 (by decide) (fun hc4 => ?_) (fun hc4 => ?_)
        · have hf := hf.2 hc4
          refine lv_iconst (v := (0 : Int32)) hx hb dL_points_31 (by decide) ?_
          exact L32 x3 x2 (0 : Int32) _ _ _ hf hP hD hS (lv_sub hl [0, 1, 3] rfl)
        · have hf := hf.1 hc4
          refine lv_iconst (v := (1 : Int32)) hx hb dL_points_27 (by decide) ?_
          refine lv_goto (tgt := 32) hx hb dL_points_28 (by decide) ?_
          exact L32 x3 x2 (1 : Int32) _ _ _ hf hP hD hS (lv_sub hl [0, 1, 3] rfl)
  have hf := hw
  refine lv_iconst (v := (0 : Int32)) hx hb dL_points_0 (by decide) ?_
  refine lv_istore_n (lv' := [(2, .int (0 : Int32)), (0, .ref h_a0), (1, .int x1)]) hx hb dL_points_1 rfl hl (by decide) rfl (fun ls hl => ?_)
  refine lv_aload_n hx hb dL_points_2 rfl (lv_at hl 1 rfl) ?_
  refine lv_iconst (v := (-1 : Int32)) hx hb dL_points_3 (by decide) ?_
  refine gz_iR (va_runS (As := [.ref h_a0, .int (-1 : Int32)]) (rest := []) ⟨hx, hb, hml, hown, hts⟩ (c_L_next l dC dI cI cJ cC cZ h_a0 s.heap.size a0 (-1 : Int32) _ hf) (va_cwS 2 hts gL_points_L_next rfl rfl rfl (by decide +kernel) ⟨Nat.le_of_ble_eq_true rfl, Nat.le_of_ble_eq_true rfl⟩) ⟨gz_blind, gz_pre (gz_P_of hP (is := [0]) (wc := [(h_a0, .inl (cI, 51, .inl a0))]) rfl) hK (hD.sub [0] (by decide) rfl) gz_N0⟩ rfl rfl hl.1 rfl (lv_room (Nat.le_of_ble_eq_true rfl)) dL_points_4 ⟨Nat.le_refl _, Nat.le_refl _⟩) hP hD hS hA [0] rfl (fun r1 H locs hf hP hS => ?_)
  refine lv_istore_n (lv' := [(3, .int r1), (2, .int (0 : Int32)), (0, .ref h_a0), (1, .int x1)]) hx hb dL_points_7 rfl hl (by decide) rfl (fun ls hl => ?_)
  obtain ⟨n, hf⟩ := hf
  exact L8  n (0 : Int32) r1 _ _ _ hf hP hD hS (lv_sub hl [2, 3, 1, 0] rfl)
abbrev rm_L_all : Room := { frames := 0, cells := 0, slots := 0, locals := 0 }
set_option maxHeartbeats 4000000 in
set_option maxRecDepth 100000 in
theorem c_L_all (l : Launch) (dC : Nat → ClassId) (dI : Nat → Nat → Nat) (cI cJ cC cZ : ClassId) (h_a0 : Nat) (sz : Nat) (a0 : Nat → Int32) (Q : Int32 → Prop) (hw : p_L_all a0 Q) : Met l yL_all wsL_all rm_L_all (va_Pc [.ref h_a0] (gz_B (dC, dI) (gz_T cI cJ cC cZ) [] sz [(h_a0, .inl (cI, 51, .inl a0))])) (va_Qi (fun (r : Int32) (u : Unit) => Q r) (fun u t => gz_E (dC, dI) (gz_T cI cJ cC cZ) (va_A [(h_a0, .inl (cI, 51, .inl a0))] sz) [(h_a0, .inl (cI, 51, .inl a0))] t) (va_A [(h_a0, .inl (cI, 51, .inl a0))] sz)) 0 0 (va_A [(h_a0, .inl (cI, 51, .inl a0))] sz) := by
  refine gz_mi (cc := cL_all) (maxL := 1) (plainFor_of_name (by decide +kernel)) rfl (Nat.le_of_ble_eq_true rfl) ?_
  intro p e s m below meth c A QQ ls hx hb hml hown0 hts hK hN hA hP hD hS hl ret
  have hown : s.vm.findClass RL = some m.cls := hown0
  have hl : lv_has ls 1 [(0, .ref h_a0)] := hl
  have hf := hw
  refine lv_iconst (v := (1 : Int32)) hx hb dL_all_0 (by decide) ?_
  refine lv_aload_n hx hb dL_all_1 rfl (lv_at hl 0 rfl) ?_
  refine lv_iconst (v := (0 : Int32)) hx hb dL_all_2 (by decide) ?_
  obtain ⟨hb1, hf⟩ := hf
  refine va_iald hx hb hK hP 0 0 rfl rfl hb1 dL_all_3 ?_
  refine lv_ishl hx hb dL_all_4 ?_
  refine lv_iconst (v := (1 : Int32)) hx hb dL_all_5 (by decide) ?_
  refine lv_isub hx hb dL_all_6 ?_
  exact ret _ _ _ _ (((1 : Int32) <<< ((a0 (0 : Int32).toNatClampNeg) &&& 31)) - (1 : Int32)) () hf hP hD hS dL_all_7
