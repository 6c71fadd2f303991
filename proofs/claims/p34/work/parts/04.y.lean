/-! contracts of methods that read the script -/
abbrev gz_BX (b L : Nat) (xs : Nat → Int32) (D : va_G) (tys : List (ClassId × FieldType)) (Ns : List (String × Nat × MethodName × String)) (sz : Nat) (ws : va_W) (U : State) : Prop := gz_B D tys Ns sz ws U ∧ va_X b L xs U U.heap ∧ b < U.heap.size ∧ ∀ (k : Nat) (q : Nat × va_E), ws[k]? = some q → q.1 ≠ b
theorem gz_blindX {b L : Nat} {xs : Nat → Int32} {D : va_G} {tys : List (ClassId × FieldType)} {Ns : List (String × Nat × MethodName × String)} {sz : Nat} {ws : va_W} {av : List Value} : FrameBlind (va_Pc av (gz_BX b L xs D tys Ns sz ws)) := fun a U g mk h => ⟨h.1, ⟨h.2.1.1, h.2.1.2.1, va_K.moved (u := U) (U := U.calling g mk a) (Vm.Alike.refl U.vm) h.2.1.2.2.1, h.2.1.2.2.2.1, fun q hq => va_Nw.same (u := U) (U := U.calling g mk a) rfl rfl (h.2.1.2.2.2.2 q hq)⟩, va_X.moved (u := U) (U := U.calling g mk a) (Vm.Alike.refl U.vm) h.2.2.1, h.2.2.2.1, h.2.2.2.2⟩
theorem gz_preX {b L : Nat} {xs : Nat → Int32} {D : va_G} {tys : List (ClassId × FieldType)} {Ns : List (String × Nat × MethodName × String)} {s : State} {H : Heap} {locs : List Loc} {A : Nat → Prop} {wc : va_W} {av : List Value} (hX : va_X b L xs s s.heap) (hbl : b < s.heap.size) (hbA : ¬ A b) (hS : va_S A s.heap H locs) (hPc : va_P D vwCl wc H) (hK : va_K D vwCl tys s) (hD : va_D A wc) (hN : gz_N Ns s) : ∀ U : State, U.heap = H → s.WarmedH U.vm → va_Pc av (gz_BX b L xs D tys Ns H.size wc) av.toArray U :=
  fun U hU hW => ⟨rfl, ⟨by rw [hU], by rw [hU]; exact hPc, va_K.moved hW.alike hK, hD.weaken (fun _ _ _ _ => trivial), fun q hq => va_Nw.warmM hW (hN q hq)⟩, by rw [hU]; exact va_X.moved hW.alike (hX.kept (hS.2.1 b hbl hbA)), by rw [hU]; exact Nat.lt_of_lt_of_le hbl hS.1, fun k q hq e => hbA (e ▸ hD.2 k q hq)⟩
section GMX
variable {l : Launch} {y : MethodName} {ws ws' : List Cond} {rm : Room} {cc : ByteArray} {maxL : Nat} {D : va_G} {tys : List (ClassId × FieldType)} {Ns : List (String × Nat × MethodName × String)} {sz : Nat} {av : List Value} {w0 : va_W} {S : Type} {W1 : S → va_W} {b L : Nat} {xs : Nat → Int32}
theorem gz_miX {post : Int32 → S → Prop} (hy : plainFor y = true) (hw : ws = Cond.code y cc maxL (some .int) :: ws') (hav : (lg_sl av).length ≤ maxL)
    (body : ∀ (p : Program) (e : Env) (s : State) (m : MethodId) (below : List Frame) (meth : Method) (c : Code) (A : Nat → Prop) (QQ : State → Prop) (ls : Array Slot), p.tables.exec = Jvm.exec → c.code = cc → c.maxLocals = maxL → s.vm.findClass y.cls = some m.cls → (∀ w ∈ ws, w.before av.toArray s = true) → va_K D vwCl tys s → gz_N Ns s → (∀ q, s.heap.size ≤ q → A q) → va_P D vwCl w0 s.heap → va_D A w0 → va_S A s.heap s.heap [] → lv_has ls maxL (lv_args 0 av) → va_X b L xs s s.heap → b < s.heap.size → ¬ A b →
      (∀ (H : Heap) (locs : List Loc) (pc : Nat) (ls : Array Slot) (r : Int32) (u : S), post r u → va_P D vwCl (W1 u) H → va_D A (W1 u) → va_S A s.heap H locs → decode cc pc = .ok (.ireturn, 1) → W p l e rm s m av.toArray below meth c H locs 0 0 QQ (F0 m pc ls [.int r])) → W p l e rm s m av.toArray below meth c s.heap [] 0 0 QQ (F0 m 0 ls [])) :
    Met l y ws rm (va_Pc av (gz_BX b L xs D tys Ns sz w0)) (va_Qi post (fun u t => gz_E D tys (va_A w0 sz) (W1 u) t) (va_A w0 sz)) 0 0 (va_A w0 sz) := by
  refine gz_ofW (cc := cc) (maxL := maxL) (ret := (some .int)) hy hw ?_
  intro p e s m args below meth c s₁ B hml hv
  obtain ⟨rfl, ⟨hsz, hP, hK, hD0, hN⟩, hX, hbl, hne⟩ := hv
  have hr := B.returns
  have hts := atoms_spec (ws := ws) B.pre
  have hown : s.vm.findClass y.cls = some m.cls := findClass_of_methodNamed B.named
  have hlocks := B.notSynchronized
  subst hsz
  have hD := hD0.self (sz := s.heap.size)
  have hA : ∀ q : Nat, s.heap.size ≤ q → va_A w0 s.heap.size q := fun q h => Or.inr h
  have hbA : ¬ va_A w0 s.heap.size b := by
    rintro (⟨k, e, h⟩ | h)
    · exact hne k _ h rfl
    · exact absurd hbl (Nat.not_lt.mpr h)
  generalize va_A w0 s.heap.size = A at hD hA hbA ⊢
  have hl := lv_entry av (n := maxL) hav
  rw [lg_entry_eq]
  generalize (lg_sl av ++ List.replicate (maxL - (lg_sl av).length) Slot.unset).toArray = ls at hl ⊢
  refine body p e s m below meth c A _ ls B.exec B.bytes hml hown hts hK hN hA hP hD va_S.rf hl hX hbl hbA ?_
  intro H locs pc ls r u hpost hP hD hS hdg
  exact W.iret (v := r) B.exec B.bytes hr (fun t ht hW => ⟨⟨r, u, rfl, hpost, by rw [ht]; exact hP, va_K.moved hW.alike hK, hD⟩, hS.F ht⟩) hS.2.2 hdg
theorem gz_mzX {post : Int32 → S → Prop} (hy : plainFor y = true) (hw : ws = Cond.code y cc maxL (some .boolean) :: ws') (hav : (lg_sl av).length ≤ maxL)
    (body : ∀ (p : Program) (e : Env) (s : State) (m : MethodId) (below : List Frame) (meth : Method) (c : Code) (A : Nat → Prop) (QQ : State → Prop) (ls : Array Slot), p.tables.exec = Jvm.exec → c.code = cc → c.maxLocals = maxL → s.vm.findClass y.cls = some m.cls → (∀ w ∈ ws, w.before av.toArray s = true) → va_K D vwCl tys s → gz_N Ns s → (∀ q, s.heap.size ≤ q → A q) → va_P D vwCl w0 s.heap → va_D A w0 → va_S A s.heap s.heap [] → lv_has ls maxL (lv_args 0 av) → va_X b L xs s s.heap → b < s.heap.size → ¬ A b →
      (∀ (H : Heap) (locs : List Loc) (pc : Nat) (ls : Array Slot) (r : Int32) (u : S), narrow .boolean (.int r) = .int r → post r u → va_P D vwCl (W1 u) H → va_D A (W1 u) → va_S A s.heap H locs → decode cc pc = .ok (.ireturn, 1) → W p l e rm s m av.toArray below meth c H locs 0 0 QQ (F0 m pc ls [.int r])) → W p l e rm s m av.toArray below meth c s.heap [] 0 0 QQ (F0 m 0 ls [])) :
    Met l y ws rm (va_Pc av (gz_BX b L xs D tys Ns sz w0)) (va_Qi post (fun u t => gz_E D tys (va_A w0 sz) (W1 u) t) (va_A w0 sz)) 0 0 (va_A w0 sz) := by
  refine gz_ofW (cc := cc) (maxL := maxL) (ret := (some .boolean)) hy hw ?_
  intro p e s m args below meth c s₁ B hml hv
  obtain ⟨rfl, ⟨hsz, hP, hK, hD0, hN⟩, hX, hbl, hne⟩ := hv
  have hr := B.returns
  have hts := atoms_spec (ws := ws) B.pre
  have hown : s.vm.findClass y.cls = some m.cls := findClass_of_methodNamed B.named
  have hlocks := B.notSynchronized
  subst hsz
  have hD := hD0.self (sz := s.heap.size)
  have hA : ∀ q : Nat, s.heap.size ≤ q → va_A w0 s.heap.size q := fun q h => Or.inr h
  have hbA : ¬ va_A w0 s.heap.size b := by
    rintro (⟨k, e, h⟩ | h)
    · exact hne k _ h rfl
    · exact absurd hbl (Nat.not_lt.mpr h)
  generalize va_A w0 s.heap.size = A at hD hA hbA ⊢
  have hl := lv_entry av (n := maxL) hav
  rw [lg_entry_eq]
  generalize (lg_sl av ++ List.replicate (maxL - (lg_sl av).length) Slot.unset).toArray = ls at hl ⊢
  refine body p e s m below meth c A _ ls B.exec B.bytes hml hown hts hK hN hA hP hD va_S.rf hl hX hbl hbA ?_
  intro H locs pc ls r u hn hpost hP hD hS hdg
  exact W.zret (v := r) B.exec B.bytes hr hn (fun t ht hW => ⟨⟨r, u, rfl, hpost, by rw [ht]; exact hP, va_K.moved hW.alike hK, hD⟩, hS.F ht⟩) hS.2.2 hdg
theorem gz_mvX {post : S → Prop} (hy : plainFor y = true) (hw : ws = Cond.code y cc maxL none :: ws') (hav : (lg_sl av).length ≤ maxL)
    (body : ∀ (p : Program) (e : Env) (s : State) (m : MethodId) (below : List Frame) (meth : Method) (c : Code) (A : Nat → Prop) (QQ : State → Prop) (ls : Array Slot), p.tables.exec = Jvm.exec → c.code = cc → c.maxLocals = maxL → s.vm.findClass y.cls = some m.cls → (∀ w ∈ ws, w.before av.toArray s = true) → va_K D vwCl tys s → gz_N Ns s → (∀ q, s.heap.size ≤ q → A q) → va_P D vwCl w0 s.heap → va_D A w0 → va_S A s.heap s.heap [] → lv_has ls maxL (lv_args 0 av) → va_X b L xs s s.heap → b < s.heap.size → ¬ A b →
      (∀ (H : Heap) (locs : List Loc) (pc : Nat) (ls : Array Slot) (u : S), post u → va_P D vwCl (W1 u) H → va_D A (W1 u) → va_S A s.heap H locs → decode cc pc = .ok (.return_, 1) → W p l e rm s m av.toArray below meth c H locs 0 0 QQ (F0 m pc ls [])) → W p l e rm s m av.toArray below meth c s.heap [] 0 0 QQ (F0 m 0 ls [])) :
    Met l y ws rm (va_Pc av (gz_BX b L xs D tys Ns sz w0)) (va_Qv post (fun u t => gz_E D tys (va_A w0 sz) (W1 u) t) (va_A w0 sz)) 0 0 (va_A w0 sz) := by
  refine gz_ofW (cc := cc) (maxL := maxL) (ret := none) hy hw ?_
  intro p e s m args below meth c s₁ B hml hv
  obtain ⟨rfl, ⟨hsz, hP, hK, hD0, hN⟩, hX, hbl, hne⟩ := hv
  have hr := B.returns
  have hts := atoms_spec (ws := ws) B.pre
  have hown : s.vm.findClass y.cls = some m.cls := findClass_of_methodNamed B.named
  have hlocks := B.notSynchronized
  subst hsz
  have hD := hD0.self (sz := s.heap.size)
  have hA : ∀ q : Nat, s.heap.size ≤ q → va_A w0 s.heap.size q := fun q h => Or.inr h
  have hbA : ¬ va_A w0 s.heap.size b := by
    rintro (⟨k, e, h⟩ | h)
    · exact hne k _ h rfl
    · exact absurd hbl (Nat.not_lt.mpr h)
  generalize va_A w0 s.heap.size = A at hD hA hbA ⊢
  have hl := lv_entry av (n := maxL) hav
  rw [lg_entry_eq]
  generalize (lg_sl av ++ List.replicate (maxL - (lg_sl av).length) Slot.unset).toArray = ls at hl ⊢
  refine body p e s m below meth c A _ ls B.exec B.bytes hml hown hts hK hN hA hP hD va_S.rf hl hX hbl hbA ?_
  intro H locs pc ls u hpost hP hD hS hdg
  exact W.vret B.exec B.bytes hr (fun t ht hW => ⟨⟨u, rfl, hpost, by rw [ht]; exact hP, va_K.moved hW.alike hK, hD⟩, hS.F ht⟩) hS.2.2 hdg
end GMX
theorem gz_out7 {x : Int32} (h0 : ¬ x = (0 : Int32)) (h1 : ¬ x = (1 : Int32)) (h2 : ¬ x = (2 : Int32)) (h3 : ¬ x = (3 : Int32)) (h4 : ¬ x = (4 : Int32)) (h5 : ¬ x = (5 : Int32)) (h6 : ¬ x = (6 : Int32)) : x.toInt < 0 ∨ 6 < x.toInt := by
  rcases Int.lt_or_le x.toInt 0 with h | h
  · exact Or.inl h
  · rcases Int.lt_or_le 6 x.toInt with g | g
    · exact Or.inr g
    · exfalso
      rcases (show x.toInt = 0 ∨ x.toInt = 1 ∨ x.toInt = 2 ∨ x.toInt = 3 ∨ x.toInt = 4 ∨ x.toInt = 5 ∨ x.toInt = 6 by omega) with h | h | h | h | h | h | h
      · exact h0 (gz_toI (by decide) h)
      · exact h1 (gz_toI (by decide) h)
      · exact h2 (gz_toI (by decide) h)
      · exact h3 (gz_toI (by decide) h)
      · exact h4 (gz_toI (by decide) h)
      · exact h5 (gz_toI (by decide) h)
      · exact h6 (gz_toI (by decide) h)
theorem gi9_inv {A1 A2 A3 A4 A5 A6 A7 A8 A9 : Type} {f : (A1 → A2 → A3 → A4 → A5 → A6 → A7 → A8 → A9 → Prop) → A1 → A2 → A3 → A4 → A5 → A6 → A7 → A8 → A9 → Prop} (N : Nat) (I : Nat → A1 → A2 → A3 → A4 → A5 → A6 → A7 → A8 → A9 → Prop) (hs : ∀ i, i < N → ∀ (X : A1 → A2 → A3 → A4 → A5 → A6 → A7 → A8 → A9 → Prop) (a1 : A1) (a2 : A2) (a3 : A3) (a4 : A4) (a5 : A5) (a6 : A6) (a7 : A7) (a8 : A8) (a9 : A9), I i a1 a2 a3 a4 a5 a6 a7 a8 a9 → (∀ (b1 : A1) (b2 : A2) (b3 : A3) (b4 : A4) (b5 : A5) (b6 : A6) (b7 : A7) (b8 : A8) (b9 : A9), I (i + 1) b1 b2 b3 b4 b5 b6 b7 b8 b9 → X b1 b2 b3 b4 b5 b6 b7 b8 b9) → f X a1 a2 a3 a4 a5 a6 a7 a8 a9) (he : ∀ (X : A1 → A2 → A3 → A4 → A5 → A6 → A7 → A8 → A9 → Prop) (a1 : A1) (a2 : A2) (a3 : A3) (a4 : A4) (a5 : A5) (a6 : A6) (a7 : A7) (a8 : A8) (a9 : A9), I N a1 a2 a3 a4 a5 a6 a7 a8 a9 → f X a1 a2 a3 a4 a5 a6 a7 a8 a9) {a1 : A1} {a2 : A2} {a3 : A3} {a4 : A4} {a5 : A5} {a6 : A6} {a7 : A7} {a8 : A8} {a9 : A9} (h0 : I 0 a1 a2 a3 a4 a5 a6 a7 a8 a9) : ∃ n, gi9 f n a1 a2 a3 a4 a5 a6 a7 a8 a9 := by
  suffices h : ∀ (d i : Nat) (a1 : A1) (a2 : A2) (a3 : A3) (a4 : A4) (a5 : A5) (a6 : A6) (a7 : A7) (a8 : A8) (a9 : A9), i + d = N → I i a1 a2 a3 a4 a5 a6 a7 a8 a9 → gi9 f (d + 1) a1 a2 a3 a4 a5 a6 a7 a8 a9 from ⟨N + 1, h N 0 _ _ _ _ _ _ _ _ _ (by omega) h0⟩
  intro d
  induction d with
  | zero =>
    intro i a1 a2 a3 a4 a5 a6 a7 a8 a9 hi h
    have hi : i = N := by omega
    subst hi
    exact he _ _ _ _ _ _ _ _ _ _ h
  | succ d ih =>
    intro i a1 a2 a3 a4 a5 a6 a7 a8 a9 hi h
    exact hs i (by omega) _ _ _ _ _ _ _ _ _ _ h (fun b1 b2 b3 b4 b5 b6 b7 b8 b9 hb => ih (i + 1) _ _ _ _ _ _ _ _ _ (by omega) hb)
theorem gi10_inv {A1 A2 A3 A4 A5 A6 A7 A8 A9 A10 : Type} {f : (A1 → A2 → A3 → A4 → A5 → A6 → A7 → A8 → A9 → A10 → Prop) → A1 → A2 → A3 → A4 → A5 → A6 → A7 → A8 → A9 → A10 → Prop} (N : Nat) (I : Nat → A1 → A2 → A3 → A4 → A5 → A6 → A7 → A8 → A9 → A10 → Prop) (hs : ∀ i, i < N → ∀ (X : A1 → A2 → A3 → A4 → A5 → A6 → A7 → A8 → A9 → A10 → Prop) (a1 : A1) (a2 : A2) (a3 : A3) (a4 : A4) (a5 : A5) (a6 : A6) (a7 : A7) (a8 : A8) (a9 : A9) (a10 : A10), I i a1 a2 a3 a4 a5 a6 a7 a8 a9 a10 → (∀ (b1 : A1) (b2 : A2) (b3 : A3) (b4 : A4) (b5 : A5) (b6 : A6) (b7 : A7) (b8 : A8) (b9 : A9) (b10 : A10), I (i + 1) b1 b2 b3 b4 b5 b6 b7 b8 b9 b10 → X b1 b2 b3 b4 b5 b6 b7 b8 b9 b10) → f X a1 a2 a3 a4 a5 a6 a7 a8 a9 a10) (he : ∀ (X : A1 → A2 → A3 → A4 → A5 → A6 → A7 → A8 → A9 → A10 → Prop) (a1 : A1) (a2 : A2) (a3 : A3) (a4 : A4) (a5 : A5) (a6 : A6) (a7 : A7) (a8 : A8) (a9 : A9) (a10 : A10), I N a1 a2 a3 a4 a5 a6 a7 a8 a9 a10 → f X a1 a2 a3 a4 a5 a6 a7 a8 a9 a10) {a1 : A1} {a2 : A2} {a3 : A3} {a4 : A4} {a5 : A5} {a6 : A6} {a7 : A7} {a8 : A8} {a9 : A9} {a10 : A10} (h0 : I 0 a1 a2 a3 a4 a5 a6 a7 a8 a9 a10) : ∃ n, gi10 f n a1 a2 a3 a4 a5 a6 a7 a8 a9 a10 := by
  suffices h : ∀ (d i : Nat) (a1 : A1) (a2 : A2) (a3 : A3) (a4 : A4) (a5 : A5) (a6 : A6) (a7 : A7) (a8 : A8) (a9 : A9) (a10 : A10), i + d = N → I i a1 a2 a3 a4 a5 a6 a7 a8 a9 a10 → gi10 f (d + 1) a1 a2 a3 a4 a5 a6 a7 a8 a9 a10 from ⟨N + 1, h N 0 _ _ _ _ _ _ _ _ _ _ (by omega) h0⟩
  intro d
  induction d with
  | zero =>
    intro i a1 a2 a3 a4 a5 a6 a7 a8 a9 a10 hi h
    have hi : i = N := by omega
    subst hi
    exact he _ _ _ _ _ _ _ _ _ _ _ h
  | succ d ih =>
    intro i a1 a2 a3 a4 a5 a6 a7 a8 a9 a10 hi h
    exact hs i (by omega) _ _ _ _ _ _ _ _ _ _ _ h (fun b1 b2 b3 b4 b5 b6 b7 b8 b9 b10 hb => ih (i + 1) _ _ _ _ _ _ _ _ _ _ (by omega) hb)
theorem gi11_inv {A1 A2 A3 A4 A5 A6 A7 A8 A9 A10 A11 : Type} {f : (A1 → A2 → A3 → A4 → A5 → A6 → A7 → A8 → A9 → A10 → A11 → Prop) → A1 → A2 → A3 → A4 → A5 → A6 → A7 → A8 → A9 → A10 → A11 → Prop} (N : Nat) (I : Nat → A1 → A2 → A3 → A4 → A5 → A6 → A7 → A8 → A9 → A10 → A11 → Prop) (hs : ∀ i, i < N → ∀ (X : A1 → A2 → A3 → A4 → A5 → A6 → A7 → A8 → A9 → A10 → A11 → Prop) (a1 : A1) (a2 : A2) (a3 : A3) (a4 : A4) (a5 : A5) (a6 : A6) (a7 : A7) (a8 : A8) (a9 : A9) (a10 : A10) (a11 : A11), I i a1 a2 a3 a4 a5 a6 a7 a8 a9 a10 a11 → (∀ (b1 : A1) (b2 : A2) (b3 : A3) (b4 : A4) (b5 : A5) (b6 : A6) (b7 : A7) (b8 : A8) (b9 : A9) (b10 : A10) (b11 : A11), I (i + 1) b1 b2 b3 b4 b5 b6 b7 b8 b9 b10 b11 → X b1 b2 b3 b4 b5 b6 b7 b8 b9 b10 b11) → f X a1 a2 a3 a4 a5 a6 a7 a8 a9 a10 a11) (he : ∀ (X : A1 → A2 → A3 → A4 → A5 → A6 → A7 → A8 → A9 → A10 → A11 → Prop) (a1 : A1) (a2 : A2) (a3 : A3) (a4 : A4) (a5 : A5) (a6 : A6) (a7 : A7) (a8 : A8) (a9 : A9) (a10 : A10) (a11 : A11), I N a1 a2 a3 a4 a5 a6 a7 a8 a9 a10 a11 → f X a1 a2 a3 a4 a5 a6 a7 a8 a9 a10 a11) {a1 : A1} {a2 : A2} {a3 : A3} {a4 : A4} {a5 : A5} {a6 : A6} {a7 : A7} {a8 : A8} {a9 : A9} {a10 : A10} {a11 : A11} (h0 : I 0 a1 a2 a3 a4 a5 a6 a7 a8 a9 a10 a11) : ∃ n, gi11 f n a1 a2 a3 a4 a5 a6 a7 a8 a9 a10 a11 := by
  suffices h : ∀ (d i : Nat) (a1 : A1) (a2 : A2) (a3 : A3) (a4 : A4) (a5 : A5) (a6 : A6) (a7 : A7) (a8 : A8) (a9 : A9) (a10 : A10) (a11 : A11), i + d = N → I i a1 a2 a3 a4 a5 a6 a7 a8 a9 a10 a11 → gi11 f (d + 1) a1 a2 a3 a4 a5 a6 a7 a8 a9 a10 a11 from ⟨N + 1, h N 0 _ _ _ _ _ _ _ _ _ _ _ (by omega) h0⟩
  intro d
  induction d with
  | zero =>
    intro i a1 a2 a3 a4 a5 a6 a7 a8 a9 a10 a11 hi h
    have hi : i = N := by omega
    subst hi
    exact he _ _ _ _ _ _ _ _ _ _ _ _ h
  | succ d ih =>
    intro i a1 a2 a3 a4 a5 a6 a7 a8 a9 a10 a11 hi h
    exact hs i (by omega) _ _ _ _ _ _ _ _ _ _ _ _ h (fun b1 b2 b3 b4 b5 b6 b7 b8 b9 b10 b11 hb => ih (i + 1) _ _ _ _ _ _ _ _ _ _ _ (by omega) hb)
