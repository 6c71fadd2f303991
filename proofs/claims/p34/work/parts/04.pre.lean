/-! worlds of this claim: what a contract takes and gives, calls in one row -/
abbrev gz_T (cI cJ cC cZ : ClassId) : List (ClassId × FieldType) := [(cI, .int), (cJ, .long), (cC, .char), (cZ, .boolean)]
def gz_N (Ns : List (String × Nat × MethodName × String)) (U : State) : Prop := ∀ q ∈ Ns, va_Nw (.methodLinkNest q.1 q.2.1 q.2.2.1 q.2.2.2) U
abbrev gz_B (D : va_G) (tys : List (ClassId × FieldType)) (Ns : List (String × Nat × MethodName × String)) (sz : Nat) (ws : va_W) (U : State) : Prop := U.heap.size = sz ∧ va_P D vwCl ws U.heap ∧ va_K D vwCl tys U ∧ va_D (fun _ => True) ws ∧ gz_N Ns U
abbrev gz_E (D : va_G) (tys : List (ClassId × FieldType)) (A : Nat → Prop) (ws : va_W) (t : State) : Prop := va_P D vwCl ws t.heap ∧ va_K D vwCl tys t ∧ va_D A ws
theorem gz_N0 {s : State} : gz_N [] s := fun _ h => absurd h List.not_mem_nil
theorem gz_N.sub {Ns Ns' : List (String × Nat × MethodName × String)} {s : State} (h : gz_N Ns s) (is : List Nat) (hs : is.filterMap (fun i => Ns[i]?) = Ns') : gz_N Ns' s := by
  intro q hq
  rw [← hs] at hq
  obtain ⟨i, -, hi⟩ := List.mem_filterMap.mp hq
  exact h q (List.mem_of_getElem? hi)
theorem gz_N.at {Ns : List (String × Nat × MethodName × String)} {s : State} (h : gz_N Ns s) (i : Nat) {q : String × Nat × MethodName × String} (hs : Ns[i]? = some q) : va_Nw (.methodLinkNest q.1 q.2.1 q.2.2.1 q.2.2.2) s := h q (List.mem_of_getElem? hs)
theorem gz_blind {D : va_G} {tys : List (ClassId × FieldType)} {Ns : List (String × Nat × MethodName × String)} {sz : Nat} {ws : va_W} {av : List Value} : FrameBlind (va_Pc av (gz_B D tys Ns sz ws)) := fun a U g mk h => ⟨h.1, h.2.1, h.2.2.1, va_K.moved (u := U) (U := U.calling g mk a) (Vm.Alike.refl U.vm) h.2.2.2.1, h.2.2.2.2.1, fun q hq => va_Nw.same (u := U) (U := U.calling g mk a) rfl rfl (h.2.2.2.2.2 q hq)⟩
theorem gz_pre {D : va_G} {tys : List (ClassId × FieldType)} {Ns : List (String × Nat × MethodName × String)} {s : State} {H : Heap} {A : Nat → Prop} {wc : va_W} {av : List Value} (hPc : va_P D vwCl wc H) (hK : va_K D vwCl tys s) (hD : va_D A wc) (hN : gz_N Ns s) : ∀ U : State, U.heap = H → s.WarmedH U.vm → va_Pc av (gz_B D tys Ns H.size wc) av.toArray U :=
  fun U hU hW => ⟨rfl, by rw [hU], by rw [hU]; exact hPc, va_K.moved hW.alike hK, hD.weaken (fun _ _ _ _ => trivial), fun q hq => va_Nw.warmM hW (hN q hq)⟩
theorem gz_fm {α : Type} {f : Nat → Option α} {is : List Nat} {wc : List α} (h : is.map f = wc.map some) : is.filterMap f = wc := by
  have h1 : (is.map f).filterMap id = (wc.map some).filterMap id := by rw [h]
  rw [List.filterMap_map, List.filterMap_map] at h1
  simpa using h1
theorem gz_P_of {D : va_G} {cl : List vw_C} {ws wc : va_W} {H : Heap} {is : List Nat} (hP : va_P D cl ws H) (hC : is.map (fun i => ws[i]?) = wc.map some) : va_P D cl wc H := hP.sub is (gz_fm hC)
theorem gz_at {is : List Nat} {ws w : va_W} (hs : is.map (fun i => ws[i]?) = w.map some) : ∀ (k : Nat) (q : Nat × va_E), w[k]? = some q → ∃ i, is[k]? = some i ∧ ws[i]? = some q := by
  intro k q hq
  have h1 : (is.map (fun i => ws[i]?))[k]? = some (some q) := by rw [hs, List.getElem?_map, hq]; rfl
  rw [List.getElem?_map] at h1
  cases hi : is[k]? with
  | none => rw [hi] at h1; cases h1
  | some i => rw [hi] at h1; exact ⟨i, rfl, Option.some.inj h1⟩
/-- what a call that writes nothing leaves: all -/
theorem gz_same {D : va_G} {cl : List vw_C} {A : Nat → Prop} {ws wc : va_W} {H H1 : Heap} (hP : va_P D cl ws H) (hD : va_D A ws) (isC : List Nat) (hC : isC.map (fun i => ws[i]?) = wc.map some) (hk : ∀ q : Nat, q < H.size → ¬ va_A wc H.size q → H1[q]? = H[q]?) (hP1 : va_P D cl wc H1) : va_P D cl ws H1 := by
  intro k q hq
  by_cases h : ∃ (j : Nat) (e : va_E), wc[j]? = some (q.1, e)
  · obtain ⟨j, e, hj⟩ := h
    obtain ⟨i, -, hi⟩ := gz_at hC j _ hj
    have hik : i = k := hD.1 i k _ _ hi hq rfl
    subst hik
    have : (q.1, e) = q := by rw [hi] at hq; exact Option.some.inj hq
    rw [this] at hj
    exact hP1 j q hj
  · exact (hP k q hq).kept (hk q.1 (hP k q hq).lt (fun z => by
      rcases z with ⟨j, e, z⟩ | z
      · exact h ⟨j, e, z⟩
      · exact absurd (hP k q hq).lt (Nat.not_lt.mpr z)))
section GZ
variable {p : Program} {l : Launch} {e : Env} {R : Room} {s : State} {m : MethodId} {args : Array Value} {below : List Frame} {meth : Method} {c : Code} {H : Heap} {locs : List Loc} {cells slots : Nat} {Q : State → Prop}
variable {A : Nat → Prop} {H0 : Heap} {pc : Nat} {ls : Array Slot} {rest st0 : List Value} {D : va_G} {ws : va_W} {tys : List (ClassId × FieldType)} {a : Array Value}
theorem gz_i0 {post : Int32 → Unit → Prop} (hr : va_Run p l e R s m args below meth c H locs cells slots 0 0 (F0 m pc ls st0) rest (va_Qi post (fun u t => gz_E D tys (va_A [] H.size) [] t) (va_A [] H.size) a) (va_A [] H.size)) (hP : va_P D vwCl ws H) (hD : va_D A ws) (hS : va_S A H0 H locs) (hA : ∀ q, H0.size ≤ q → A q)
    (kk : ∀ (r : Int32) (H1 : Heap) (locs1 : List Loc), post r () → va_P D vwCl ws H1 → va_S A H0 H1 locs1 → W p l e R s m args below meth c H1 locs1 cells slots Q (F0 m (pc + 3) ls (.int r :: rest))) : W p l e R s m args below meth c H locs cells slots Q (F0 m pc ls st0) := by
  have hFc := va_free (wc := []) hD hS hA [] rfl
  refine va_calli hr hS (fun q _ h => hFc q h) hFc (fun r u t H1 locs1 ht hvm hw hB hz1 hk1 hS1 => ?_)
  obtain ⟨hP1, -, -⟩ := hB
  rw [ht] at hP1
  exact kk r H1 locs1 hw (gz_same hP hD [] rfl hk1 hP1) hS1
theorem gz_iR {post : Int32 → Unit → Prop} {wc : va_W} (hr : va_Run p l e R s m args below meth c H locs cells slots 0 0 (F0 m pc ls st0) rest (va_Qi post (fun u t => gz_E D tys (va_A wc H.size) wc t) (va_A wc H.size) a) (va_A wc H.size)) (hP : va_P D vwCl ws H) (hD : va_D A ws) (hS : va_S A H0 H locs) (hA : ∀ q, H0.size ≤ q → A q) (isC : List Nat) (hC : isC.map (fun i => ws[i]?) = wc.map some)
    (kk : ∀ (r : Int32) (H1 : Heap) (locs1 : List Loc), post r () → va_P D vwCl ws H1 → va_S A H0 H1 locs1 → W p l e R s m args below meth c H1 locs1 cells slots Q (F0 m (pc + 3) ls (.int r :: rest))) : W p l e R s m args below meth c H locs cells slots Q (F0 m pc ls st0) := by
  have hFc := va_free (wc := wc) hD hS hA isC hC
  refine va_calli hr hS (fun q _ h => hFc q h) hFc (fun r u t H1 locs1 ht hvm hw hB hz1 hk1 hS1 => ?_)
  obtain ⟨hP1, -, -⟩ := hB
  rw [ht] at hP1
  exact kk r H1 locs1 hw (gz_same hP hD isC hC hk1 hP1) hS1
theorem gz_lR {post : Int64 → Unit → Prop} {wc : va_W} (hr : va_Run p l e R s m args below meth c H locs cells slots 0 0 (F0 m pc ls st0) rest (va_Ql post (fun u t => gz_E D tys (va_A wc H.size) wc t) (va_A wc H.size) a) (va_A wc H.size)) (hP : va_P D vwCl ws H) (hD : va_D A ws) (hS : va_S A H0 H locs) (hA : ∀ q, H0.size ≤ q → A q) (isC : List Nat) (hC : isC.map (fun i => ws[i]?) = wc.map some)
    (kk : ∀ (r : Int64) (H1 : Heap) (locs1 : List Loc), post r () → va_P D vwCl ws H1 → va_S A H0 H1 locs1 → W p l e R s m args below meth c H1 locs1 cells slots Q (F0 m (pc + 3) ls (.long r :: rest))) : W p l e R s m args below meth c H locs cells slots Q (F0 m pc ls st0) := by
  have hFc := va_free (wc := wc) hD hS hA isC hC
  refine va_calll hr hS (fun q _ h => hFc q h) hFc (fun r u t H1 locs1 ht hvm hw hB hz1 hk1 hS1 => ?_)
  obtain ⟨hP1, -, -⟩ := hB
  rw [ht] at hP1
  exact kk r H1 locs1 hw (gz_same hP hD isC hC hk1 hP1) hS1
theorem gz_vR {post : Unit → Prop} {wc : va_W} (hr : va_Run p l e R s m args below meth c H locs cells slots 0 0 (F0 m pc ls st0) rest (va_Qv post (fun u t => gz_E D tys (va_A wc H.size) wc t) (va_A wc H.size) a) (va_A wc H.size)) (hP : va_P D vwCl ws H) (hD : va_D A ws) (hS : va_S A H0 H locs) (hA : ∀ q, H0.size ≤ q → A q) (isC : List Nat) (hC : isC.map (fun i => ws[i]?) = wc.map some)
    (kk : ∀ (H1 : Heap) (locs1 : List Loc), post () → va_P D vwCl ws H1 → va_S A H0 H1 locs1 → W p l e R s m args below meth c H1 locs1 cells slots Q (F0 m (pc + 3) ls rest)) : W p l e R s m args below meth c H locs cells slots Q (F0 m pc ls st0) := by
  have hFc := va_free (wc := wc) hD hS hA isC hC
  refine va_callv hr hS (fun q _ h => hFc q h) hFc (fun u t H1 locs1 ht hvm hw hB hz1 hk1 hS1 => ?_)
  obtain ⟨hP1, -, -⟩ := hB
  rw [ht] at hP1
  exact kk H1 locs1 hw (gz_same hP hD isC hC hk1 hP1) hS1
theorem gz_i {S : Type} {post : Int32 → S → Prop} {wc wr : va_W} {W1 wn : S → va_W} (hr : va_Run p l e R s m args below meth c H locs cells slots 0 0 (F0 m pc ls st0) rest (va_Qi post (fun u t => gz_E D tys (va_A wc H.size) (W1 u) t) (va_A wc H.size) a) (va_A wc H.size)) (hP : va_P D vwCl ws H) (hD : va_D A ws) (hS : va_S A H0 H locs) (hA : ∀ q, H0.size ≤ q → A q)
    (isC isR isN : List Nat) (hC : isC.map (fun i => ws[i]?) = wc.map some) (hR : isR.map (fun i => ws[i]?) = wr.map some) (hn : va_nd isR = true) (hdis : ∀ i ∈ isR, i ∉ isC) (hN : ∀ u, isN.map (fun i => (wr ++ W1 u)[i]?) = (wn u).map some) (hnN : va_nd isN = true)
    (kk : ∀ (r : Int32) (u : S) (H1 : Heap) (locs1 : List Loc), post r u → va_P D vwCl (wn u) H1 → va_D A (wn u) → va_S A H0 H1 locs1 → W p l e R s m args below meth c H1 locs1 cells slots Q (F0 m (pc + 3) ls (.int r :: rest))) : W p l e R s m args below meth c H locs cells slots Q (F0 m pc ls st0) := by
  have hFc := va_free (wc := wc) hD hS hA isC hC
  refine va_calli hr hS (fun q _ h => hFc q h) hFc (fun r u t H1 locs1 ht hvm hw hB hz1 hk1 hS1 => ?_)
  obtain ⟨hP1, -, hD1⟩ := hB
  rw [ht] at hP1
  obtain ⟨hP2, hD2⟩ := va_join hP hD isC isR hC hR hn hdis hk1 hFc hP1 hD1
  exact kk r u H1 locs1 hw (gz_P_of hP2 (hN u)) (hD2.sub isN hnN (hN u)) hS1
theorem gz_v {S : Type} {post : S → Prop} {wc wr : va_W} {W1 wn : S → va_W} (hr : va_Run p l e R s m args below meth c H locs cells slots 0 0 (F0 m pc ls st0) rest (va_Qv post (fun u t => gz_E D tys (va_A wc H.size) (W1 u) t) (va_A wc H.size) a) (va_A wc H.size)) (hP : va_P D vwCl ws H) (hD : va_D A ws) (hS : va_S A H0 H locs) (hA : ∀ q, H0.size ≤ q → A q)
    (isC isR isN : List Nat) (hC : isC.map (fun i => ws[i]?) = wc.map some) (hR : isR.map (fun i => ws[i]?) = wr.map some) (hn : va_nd isR = true) (hdis : ∀ i ∈ isR, i ∉ isC) (hN : ∀ u, isN.map (fun i => (wr ++ W1 u)[i]?) = (wn u).map some) (hnN : va_nd isN = true)
    (kk : ∀ (u : S) (H1 : Heap) (locs1 : List Loc), post u → va_P D vwCl (wn u) H1 → va_D A (wn u) → va_S A H0 H1 locs1 → W p l e R s m args below meth c H1 locs1 cells slots Q (F0 m (pc + 3) ls rest)) : W p l e R s m args below meth c H locs cells slots Q (F0 m pc ls st0) := by
  have hFc := va_free (wc := wc) hD hS hA isC hC
  refine va_callv hr hS (fun q _ h => hFc q h) hFc (fun u t H1 locs1 ht hvm hw hB hz1 hk1 hS1 => ?_)
  obtain ⟨hP1, -, hD1⟩ := hB
  rw [ht] at hP1
  obtain ⟨hP2, hD2⟩ := va_join hP hD isC isR hC hR hn hdis hk1 hFc hP1 hD1
  exact kk u H1 locs1 hw (gz_P_of hP2 (hN u)) (hD2.sub isN hnN (hN u)) hS1
theorem gz_r {S : Type} {post : S → Prop} {h0 : Nat} {wc wr : va_W} {W1 wn : S → va_W} (hr : va_Run p l e R s m args below meth c H locs cells slots 0 0 (F0 m pc ls st0) rest (va_Qr post (fun u b t => b = h0 ∧ gz_E D tys (va_A wc H.size) (W1 u) t) (va_A wc H.size) a) (va_A wc H.size)) (hP : va_P D vwCl ws H) (hD : va_D A ws) (hS : va_S A H0 H locs) (hA : ∀ q, H0.size ≤ q → A q)
    (isC isR isN : List Nat) (hC : isC.map (fun i => ws[i]?) = wc.map some) (hR : isR.map (fun i => ws[i]?) = wr.map some) (hn : va_nd isR = true) (hdis : ∀ i ∈ isR, i ∉ isC) (hN : ∀ u, isN.map (fun i => (wr ++ W1 u)[i]?) = (wn u).map some) (hnN : va_nd isN = true)
    (kk : ∀ (u : S) (H1 : Heap) (locs1 : List Loc), post u → va_P D vwCl (wn u) H1 → va_D A (wn u) → va_S A H0 H1 locs1 → W p l e R s m args below meth c H1 locs1 cells slots Q (F0 m (pc + 3) ls (.ref h0 :: rest))) : W p l e R s m args below meth c H locs cells slots Q (F0 m pc ls st0) := by
  have hFc := va_free (wc := wc) hD hS hA isC hC
  refine va_callr hr hS (fun q _ h => hFc q h) hFc (fun u b t H1 locs1 ht hvm hw hB hz1 hk1 hS1 => ?_)
  obtain ⟨hbe, hP1, -, hD1⟩ := hB
  subst hbe
  rw [ht] at hP1
  obtain ⟨hP2, hD2⟩ := va_join hP hD isC isR hC hR hn hdis hk1 hFc hP1 hD1
  exact kk u H1 locs1 hw (gz_P_of hP2 (hN u)) (hD2.sub isN hnN (hN u)) hS1
end GZ
/-! loops -/
def gi1 {A1 : Type} (f : (A1 → Prop) → A1 → Prop) : Nat → A1 → Prop
  | 0, _ => False
  | n + 1, a1 => f (gi1 f n) a1
def gi2 {A1 A2 : Type} (f : (A1 → A2 → Prop) → A1 → A2 → Prop) : Nat → A1 → A2 → Prop
  | 0, _, _ => False
  | n + 1, a1, a2 => f (gi2 f n) a1 a2
def gi3 {A1 A2 A3 : Type} (f : (A1 → A2 → A3 → Prop) → A1 → A2 → A3 → Prop) : Nat → A1 → A2 → A3 → Prop
  | 0, _, _, _ => False
  | n + 1, a1, a2, a3 => f (gi3 f n) a1 a2 a3
def gi4 {A1 A2 A3 A4 : Type} (f : (A1 → A2 → A3 → A4 → Prop) → A1 → A2 → A3 → A4 → Prop) : Nat → A1 → A2 → A3 → A4 → Prop
  | 0, _, _, _, _ => False
  | n + 1, a1, a2, a3, a4 => f (gi4 f n) a1 a2 a3 a4
def gi5 {A1 A2 A3 A4 A5 : Type} (f : (A1 → A2 → A3 → A4 → A5 → Prop) → A1 → A2 → A3 → A4 → A5 → Prop) : Nat → A1 → A2 → A3 → A4 → A5 → Prop
  | 0, _, _, _, _, _ => False
  | n + 1, a1, a2, a3, a4, a5 => f (gi5 f n) a1 a2 a3 a4 a5
def gi6 {A1 A2 A3 A4 A5 A6 : Type} (f : (A1 → A2 → A3 → A4 → A5 → A6 → Prop) → A1 → A2 → A3 → A4 → A5 → A6 → Prop) : Nat → A1 → A2 → A3 → A4 → A5 → A6 → Prop
  | 0, _, _, _, _, _, _ => False
  | n + 1, a1, a2, a3, a4, a5, a6 => f (gi6 f n) a1 a2 a3 a4 a5 a6
def gi7 {A1 A2 A3 A4 A5 A6 A7 : Type} (f : (A1 → A2 → A3 → A4 → A5 → A6 → A7 → Prop) → A1 → A2 → A3 → A4 → A5 → A6 → A7 → Prop) : Nat → A1 → A2 → A3 → A4 → A5 → A6 → A7 → Prop
  | 0, _, _, _, _, _, _, _ => False
  | n + 1, a1, a2, a3, a4, a5, a6, a7 => f (gi7 f n) a1 a2 a3 a4 a5 a6 a7
def gi8 {A1 A2 A3 A4 A5 A6 A7 A8 : Type} (f : (A1 → A2 → A3 → A4 → A5 → A6 → A7 → A8 → Prop) → A1 → A2 → A3 → A4 → A5 → A6 → A7 → A8 → Prop) : Nat → A1 → A2 → A3 → A4 → A5 → A6 → A7 → A8 → Prop
  | 0, _, _, _, _, _, _, _, _ => False
  | n + 1, a1, a2, a3, a4, a5, a6, a7, a8 => f (gi8 f n) a1 a2 a3 a4 a5 a6 a7 a8
def gi9 {A1 A2 A3 A4 A5 A6 A7 A8 A9 : Type} (f : (A1 → A2 → A3 → A4 → A5 → A6 → A7 → A8 → A9 → Prop) → A1 → A2 → A3 → A4 → A5 → A6 → A7 → A8 → A9 → Prop) : Nat → A1 → A2 → A3 → A4 → A5 → A6 → A7 → A8 → A9 → Prop
  | 0, _, _, _, _, _, _, _, _, _ => False
  | n + 1, a1, a2, a3, a4, a5, a6, a7, a8, a9 => f (gi9 f n) a1 a2 a3 a4 a5 a6 a7 a8 a9
def gi10 {A1 A2 A3 A4 A5 A6 A7 A8 A9 A10 : Type} (f : (A1 → A2 → A3 → A4 → A5 → A6 → A7 → A8 → A9 → A10 → Prop) → A1 → A2 → A3 → A4 → A5 → A6 → A7 → A8 → A9 → A10 → Prop) : Nat → A1 → A2 → A3 → A4 → A5 → A6 → A7 → A8 → A9 → A10 → Prop
  | 0, _, _, _, _, _, _, _, _, _, _ => False
  | n + 1, a1, a2, a3, a4, a5, a6, a7, a8, a9, a10 => f (gi10 f n) a1 a2 a3 a4 a5 a6 a7 a8 a9 a10
def gi11 {A1 A2 A3 A4 A5 A6 A7 A8 A9 A10 A11 : Type} (f : (A1 → A2 → A3 → A4 → A5 → A6 → A7 → A8 → A9 → A10 → A11 → Prop) → A1 → A2 → A3 → A4 → A5 → A6 → A7 → A8 → A9 → A10 → A11 → Prop) : Nat → A1 → A2 → A3 → A4 → A5 → A6 → A7 → A8 → A9 → A10 → A11 → Prop
  | 0, _, _, _, _, _, _, _, _, _, _, _ => False
  | n + 1, a1, a2, a3, a4, a5, a6, a7, a8, a9, a10, a11 => f (gi11 f n) a1 a2 a3 a4 a5 a6 a7 a8 a9 a10 a11
def gi12 {A1 A2 A3 A4 A5 A6 A7 A8 A9 A10 A11 A12 : Type} (f : (A1 → A2 → A3 → A4 → A5 → A6 → A7 → A8 → A9 → A10 → A11 → A12 → Prop) → A1 → A2 → A3 → A4 → A5 → A6 → A7 → A8 → A9 → A10 → A11 → A12 → Prop) : Nat → A1 → A2 → A3 → A4 → A5 → A6 → A7 → A8 → A9 → A10 → A11 → A12 → Prop
  | 0, _, _, _, _, _, _, _, _, _, _, _, _ => False
  | n + 1, a1, a2, a3, a4, a5, a6, a7, a8, a9, a10, a11, a12 => f (gi12 f n) a1 a2 a3 a4 a5 a6 a7 a8 a9 a10 a11 a12
theorem gz_ofW {l : Launch} {y : MethodName} {ws ws' : List Cond} {rm : Room} {Pc : Array Value → State → Prop} {Qc : Array Value → State → Outcome → State → Prop} {mc ms : Nat} {free : Addr → Prop} {cc : ByteArray} {maxL : Nat} {ret : Option FieldType}
    (hy : plainFor y = true) (hw : ws = Cond.code y cc maxL ret :: ws')
    (body : ∀ p e s m args below meth c s₁, BodyLoose p l y (headSpec ws rm) cc maxL ret e s m args below meth c s₁ → c.maxLocals = maxL → Pc args s →
      W p l e (headSpec ws rm).room s m args below meth c s.heap [] 0 0 (MQ below Qc args s mc ms free) (entryFrame m args maxL)) : Met l y ws rm Pc Qc mc ms free := by
  refine MetFree.of_bodySF (code := cc) (maxLocals := maxL) (ret := ret) hy ?_ ?_
  · intro args s m h hn
    obtain ⟨meth, c, h1, h2, h3, h4, h5, h6, -, -⟩ := Cond.code_spec hn (atoms_spec (ws := ws) h _ (by rw [hw]; exact List.mem_cons_self))
    exact ⟨meth, c, h1, h2, h3, h4, h5, h6⟩
  · intro p e s m args below meth c s₁ B hml hP _
    have hh0 : s₁.heap = s.heap := by rw [B.state]; rfl
    obtain ⟨t, a1, o, b1, b2, b3⟩ := body p e s m args below meth c s₁ B hml hP s₁ hh0 (Stand.of_body B)
    exact ⟨t, o, a1, b1, b2, ⟨b3.1, b3.2⟩⟩
theorem gz_mathRows : (Jvm.natives.all fun r => r.cls != "java/lang/Math" || r.desc != "(II)I") = true := by decide +kernel
theorem gz_plainMath {x : MethodName} (hc : x.cls = "java/lang/Math") (hd : x.desc = "(II)I") : plainFor x = true := by
  unfold plainFor
  rw [Bool.or_eq_true]
  right
  rw [Option.isNone_iff_eq_none, NativeRow.find?, List.find?_eq_none]
  intro r hr h
  have h2 := List.all_eq_true.mp gz_mathRows r hr
  simp only [Bool.and_eq_true, beq_iff_eq] at h
  rw [h.1.2, h.2, hc, hd] at h2
  simp at h2
section GM
variable {l : Launch} {y : MethodName} {ws ws' : List Cond} {rm : Room} {cc : ByteArray} {maxL : Nat} {D : va_G} {tys : List (ClassId × FieldType)} {Ns : List (String × Nat × MethodName × String)} {sz : Nat} {av : List Value} {w0 : va_W} {S : Type} {W1 : S → va_W}
theorem gz_mi {post : Int32 → S → Prop} (hy : plainFor y = true) (hw : ws = Cond.code y cc maxL (some .int) :: ws') (hav : (lg_sl av).length ≤ maxL)
    (body : ∀ (p : Program) (e : Env) (s : State) (m : MethodId) (below : List Frame) (meth : Method) (c : Code) (A : Nat → Prop) (QQ : State → Prop) (ls : Array Slot), p.tables.exec = Jvm.exec → c.code = cc → c.maxLocals = maxL → s.vm.findClass y.cls = some m.cls → (∀ w ∈ ws, w.before av.toArray s = true) → va_K D vwCl tys s → gz_N Ns s → (∀ q, s.heap.size ≤ q → A q) → va_P D vwCl w0 s.heap → va_D A w0 → va_S A s.heap s.heap [] → lv_has ls maxL (lv_args 0 av) →
      (∀ (H : Heap) (locs : List Loc) (pc : Nat) (ls : Array Slot) (r : Int32) (u : S), post r u → va_P D vwCl (W1 u) H → va_D A (W1 u) → va_S A s.heap H locs → decode cc pc = .ok (.ireturn, 1) → W p l e rm s m av.toArray below meth c H locs 0 0 QQ (F0 m pc ls [.int r])) → W p l e rm s m av.toArray below meth c s.heap [] 0 0 QQ (F0 m 0 ls [])) :
    Met l y ws rm (va_Pc av (gz_B D tys Ns sz w0)) (va_Qi post (fun u t => gz_E D tys (va_A w0 sz) (W1 u) t) (va_A w0 sz)) 0 0 (va_A w0 sz) := by
  refine gz_ofW (cc := cc) (maxL := maxL) (ret := some .int) hy hw ?_
  intro p e s m args below meth c s₁ B hml hv
  obtain ⟨rfl, hsz, hP, hK, hD0, hN⟩ := hv
  have hr := B.returns
  have hts := atoms_spec (ws := ws) B.pre
  have hown : s.vm.findClass y.cls = some m.cls := findClass_of_methodNamed B.named
  have hlocks := B.notSynchronized
  subst hsz
  have hD := hD0.self (sz := s.heap.size)
  have hA : ∀ q : Nat, s.heap.size ≤ q → va_A w0 s.heap.size q := fun q h => Or.inr h
  generalize va_A w0 s.heap.size = A at hD hA ⊢
  have hl := lv_entry av (n := maxL) hav
  rw [lg_entry_eq]
  generalize (lg_sl av ++ List.replicate (maxL - (lg_sl av).length) Slot.unset).toArray = ls at hl ⊢
  refine body p e s m below meth c A _ ls B.exec B.bytes hml hown hts hK hN hA hP hD va_S.rf hl ?_
  intro H locs pc ls r u hpost hP hD hS hdg
  exact W.iret (v := r) B.exec B.bytes hr (fun t ht hW => ⟨⟨r, u, rfl, hpost, by rw [ht]; exact hP, va_K.moved hW.alike hK, hD⟩, hS.F ht⟩) hS.2.2 hdg
theorem gz_mz {post : Int32 → S → Prop} (hy : plainFor y = true) (hw : ws = Cond.code y cc maxL (some .boolean) :: ws') (hav : (lg_sl av).length ≤ maxL)
    (body : ∀ (p : Program) (e : Env) (s : State) (m : MethodId) (below : List Frame) (meth : Method) (c : Code) (A : Nat → Prop) (QQ : State → Prop) (ls : Array Slot), p.tables.exec = Jvm.exec → c.code = cc → c.maxLocals = maxL → s.vm.findClass y.cls = some m.cls → (∀ w ∈ ws, w.before av.toArray s = true) → va_K D vwCl tys s → gz_N Ns s → (∀ q, s.heap.size ≤ q → A q) → va_P D vwCl w0 s.heap → va_D A w0 → va_S A s.heap s.heap [] → lv_has ls maxL (lv_args 0 av) →
      (∀ (H : Heap) (locs : List Loc) (pc : Nat) (ls : Array Slot) (r : Int32) (u : S), narrow .boolean (.int r) = .int r → post r u → va_P D vwCl (W1 u) H → va_D A (W1 u) → va_S A s.heap H locs → decode cc pc = .ok (.ireturn, 1) → W p l e rm s m av.toArray below meth c H locs 0 0 QQ (F0 m pc ls [.int r])) → W p l e rm s m av.toArray below meth c s.heap [] 0 0 QQ (F0 m 0 ls [])) :
    Met l y ws rm (va_Pc av (gz_B D tys Ns sz w0)) (va_Qi post (fun u t => gz_E D tys (va_A w0 sz) (W1 u) t) (va_A w0 sz)) 0 0 (va_A w0 sz) := by
  refine gz_ofW (cc := cc) (maxL := maxL) (ret := some .boolean) hy hw ?_
  intro p e s m args below meth c s₁ B hml hv
  obtain ⟨rfl, hsz, hP, hK, hD0, hN⟩ := hv
  have hr := B.returns
  have hts := atoms_spec (ws := ws) B.pre
  have hown : s.vm.findClass y.cls = some m.cls := findClass_of_methodNamed B.named
  have hlocks := B.notSynchronized
  subst hsz
  have hD := hD0.self (sz := s.heap.size)
  have hA : ∀ q : Nat, s.heap.size ≤ q → va_A w0 s.heap.size q := fun q h => Or.inr h
  generalize va_A w0 s.heap.size = A at hD hA ⊢
  have hl := lv_entry av (n := maxL) hav
  rw [lg_entry_eq]
  generalize (lg_sl av ++ List.replicate (maxL - (lg_sl av).length) Slot.unset).toArray = ls at hl ⊢
  refine body p e s m below meth c A _ ls B.exec B.bytes hml hown hts hK hN hA hP hD va_S.rf hl ?_
  intro H locs pc ls r u hn hpost hP hD hS hdg
  exact W.zret (v := r) B.exec B.bytes hr hn (fun t ht hW => ⟨⟨r, u, rfl, hpost, by rw [ht]; exact hP, va_K.moved hW.alike hK, hD⟩, hS.F ht⟩) hS.2.2 hdg
theorem gz_ml {post : Int64 → S → Prop} (hy : plainFor y = true) (hw : ws = Cond.code y cc maxL (some .long) :: ws') (hav : (lg_sl av).length ≤ maxL)
    (body : ∀ (p : Program) (e : Env) (s : State) (m : MethodId) (below : List Frame) (meth : Method) (c : Code) (A : Nat → Prop) (QQ : State → Prop) (ls : Array Slot), p.tables.exec = Jvm.exec → c.code = cc → c.maxLocals = maxL → s.vm.findClass y.cls = some m.cls → (∀ w ∈ ws, w.before av.toArray s = true) → va_K D vwCl tys s → gz_N Ns s → (∀ q, s.heap.size ≤ q → A q) → va_P D vwCl w0 s.heap → va_D A w0 → va_S A s.heap s.heap [] → lv_has ls maxL (lv_args 0 av) →
      (∀ (H : Heap) (locs : List Loc) (pc : Nat) (ls : Array Slot) (r : Int64) (u : S), post r u → va_P D vwCl (W1 u) H → va_D A (W1 u) → va_S A s.heap H locs → decode cc pc = .ok (.lreturn, 1) → W p l e rm s m av.toArray below meth c H locs 0 0 QQ (F0 m pc ls [.long r])) → W p l e rm s m av.toArray below meth c s.heap [] 0 0 QQ (F0 m 0 ls [])) :
    Met l y ws rm (va_Pc av (gz_B D tys Ns sz w0)) (va_Ql post (fun u t => gz_E D tys (va_A w0 sz) (W1 u) t) (va_A w0 sz)) 0 0 (va_A w0 sz) := by
  refine gz_ofW (cc := cc) (maxL := maxL) (ret := some .long) hy hw ?_
  intro p e s m args below meth c s₁ B hml hv
  obtain ⟨rfl, hsz, hP, hK, hD0, hN⟩ := hv
  have hr := B.returns
  have hts := atoms_spec (ws := ws) B.pre
  have hown : s.vm.findClass y.cls = some m.cls := findClass_of_methodNamed B.named
  have hlocks := B.notSynchronized
  subst hsz
  have hD := hD0.self (sz := s.heap.size)
  have hA : ∀ q : Nat, s.heap.size ≤ q → va_A w0 s.heap.size q := fun q h => Or.inr h
  generalize va_A w0 s.heap.size = A at hD hA ⊢
  have hl := lv_entry av (n := maxL) hav
  rw [lg_entry_eq]
  generalize (lg_sl av ++ List.replicate (maxL - (lg_sl av).length) Slot.unset).toArray = ls at hl ⊢
  refine body p e s m below meth c A _ ls B.exec B.bytes hml hown hts hK hN hA hP hD va_S.rf hl ?_
  intro H locs pc ls r u hpost hP hD hS hdg
  exact W.lret (v := r) B.exec B.bytes hr (fun t ht hW => ⟨⟨r, u, rfl, hpost, by rw [ht]; exact hP, va_K.moved hW.alike hK, hD⟩, hS.F ht⟩) hS.2.2 hdg
theorem gz_mv {post : S → Prop} (hy : plainFor y = true) (hw : ws = Cond.code y cc maxL none :: ws') (hav : (lg_sl av).length ≤ maxL)
    (body : ∀ (p : Program) (e : Env) (s : State) (m : MethodId) (below : List Frame) (meth : Method) (c : Code) (A : Nat → Prop) (QQ : State → Prop) (ls : Array Slot), p.tables.exec = Jvm.exec → c.code = cc → c.maxLocals = maxL → s.vm.findClass y.cls = some m.cls → (∀ w ∈ ws, w.before av.toArray s = true) → va_K D vwCl tys s → gz_N Ns s → (∀ q, s.heap.size ≤ q → A q) → va_P D vwCl w0 s.heap → va_D A w0 → va_S A s.heap s.heap [] → lv_has ls maxL (lv_args 0 av) →
      (∀ (H : Heap) (locs : List Loc) (pc : Nat) (ls : Array Slot) (u : S), post u → va_P D vwCl (W1 u) H → va_D A (W1 u) → va_S A s.heap H locs → decode cc pc = .ok (.return_, 1) → W p l e rm s m av.toArray below meth c H locs 0 0 QQ (F0 m pc ls [])) → W p l e rm s m av.toArray below meth c s.heap [] 0 0 QQ (F0 m 0 ls [])) :
    Met l y ws rm (va_Pc av (gz_B D tys Ns sz w0)) (va_Qv post (fun u t => gz_E D tys (va_A w0 sz) (W1 u) t) (va_A w0 sz)) 0 0 (va_A w0 sz) := by
  refine gz_ofW (cc := cc) (maxL := maxL) (ret := none) hy hw ?_
  intro p e s m args below meth c s₁ B hml hv
  obtain ⟨rfl, hsz, hP, hK, hD0, hN⟩ := hv
  have hr := B.returns
  have hts := atoms_spec (ws := ws) B.pre
  have hown : s.vm.findClass y.cls = some m.cls := findClass_of_methodNamed B.named
  have hlocks := B.notSynchronized
  subst hsz
  have hD := hD0.self (sz := s.heap.size)
  have hA : ∀ q : Nat, s.heap.size ≤ q → va_A w0 s.heap.size q := fun q h => Or.inr h
  generalize va_A w0 s.heap.size = A at hD hA ⊢
  have hl := lv_entry av (n := maxL) hav
  rw [lg_entry_eq]
  generalize (lg_sl av ++ List.replicate (maxL - (lg_sl av).length) Slot.unset).toArray = ls at hl ⊢
  refine body p e s m below meth c A _ ls B.exec B.bytes hml hown hts hK hN hA hP hD va_S.rf hl ?_
  intro H locs pc ls u hpost hP hD hS hdg
  exact W.vret B.exec B.bytes hr (fun t ht hW => ⟨⟨u, rfl, hpost, by rw [ht]; exact hP, va_K.moved hW.alike hK, hD⟩, hS.F ht⟩) hS.2.2 hdg
theorem gz_mr {post : S → Prop} {h0 : Nat} {cn : String} (hy : plainFor y = true) (hw : ws = Cond.code y cc maxL (some (.object cn)) :: ws') (hav : (lg_sl av).length ≤ maxL)
    (body : ∀ (p : Program) (e : Env) (s : State) (m : MethodId) (below : List Frame) (meth : Method) (c : Code) (A : Nat → Prop) (QQ : State → Prop) (ls : Array Slot), p.tables.exec = Jvm.exec → c.code = cc → c.maxLocals = maxL → s.vm.findClass y.cls = some m.cls → (∀ w ∈ ws, w.before av.toArray s = true) → va_K D vwCl tys s → gz_N Ns s → (∀ q, s.heap.size ≤ q → A q) → va_P D vwCl w0 s.heap → va_D A w0 → va_S A s.heap s.heap [] → lv_has ls maxL (lv_args 0 av) →
      (∀ (H : Heap) (locs : List Loc) (pc : Nat) (ls : Array Slot) (u : S), post u → va_P D vwCl (W1 u) H → va_D A (W1 u) → va_S A s.heap H locs → decode cc pc = .ok (.areturn, 1) → W p l e rm s m av.toArray below meth c H locs 0 0 QQ (F0 m pc ls [.ref h0])) → W p l e rm s m av.toArray below meth c s.heap [] 0 0 QQ (F0 m 0 ls [])) :
    Met l y ws rm (va_Pc av (gz_B D tys Ns sz w0)) (va_Qr post (fun u b t => b = h0 ∧ gz_E D tys (va_A w0 sz) (W1 u) t) (va_A w0 sz)) 0 0 (va_A w0 sz) := by
  refine gz_ofW (cc := cc) (maxL := maxL) (ret := some (.object cn)) hy hw ?_
  intro p e s m args below meth c s₁ B hml hv
  obtain ⟨rfl, hsz, hP, hK, hD0, hN⟩ := hv
  have hr := B.returns
  have hts := atoms_spec (ws := ws) B.pre
  have hown : s.vm.findClass y.cls = some m.cls := findClass_of_methodNamed B.named
  have hlocks := B.notSynchronized
  subst hsz
  have hD := hD0.self (sz := s.heap.size)
  have hA : ∀ q : Nat, s.heap.size ≤ q → va_A w0 s.heap.size q := fun q h => Or.inr h
  generalize va_A w0 s.heap.size = A at hD hA ⊢
  have hl := lv_entry av (n := maxL) hav
  rw [lg_entry_eq]
  generalize (lg_sl av ++ List.replicate (maxL - (lg_sl av).length) Slot.unset).toArray = ls at hl ⊢
  refine body p e s m below meth c A _ ls B.exec B.bytes hml hown hts hK hN hA hP hD va_S.rf hl ?_
  intro H locs pc ls u hpost hP hD hS hdg
  exact W.aret (v := .ref h0) B.exec B.bytes hr (Or.inl ⟨_, rfl⟩) (Or.inr ⟨_, rfl⟩) (fun t ht hW => ⟨⟨u, h0, rfl, hpost, rfl, by rw [ht]; exact hP, va_K.moved hW.alike hK, hD⟩, hS.F ht⟩) hS.2.2 hdg
end GM
/-! switches: what is none of the keys -/
theorem gz_toI {x : Int32} {k : Int} (hk : -2147483648 ≤ k ∧ k < 2147483648) (h : x.toInt = k) : x = Int32.ofInt k := by
  apply Int32.toInt_inj.mp
  rw [h, Int32.toInt_ofInt]
  have := hk.1
  have := hk.2
  simp only [Int.bmod, Int32.size]
  omega
theorem gz_out3 {x : Int32} (h0 : ¬ x = (0 : Int32)) (h1 : ¬ x = (1 : Int32)) (h2 : ¬ x = (2 : Int32)) : x.toInt < 0 ∨ 2 < x.toInt := by
  rcases Int.lt_or_le x.toInt 0 with h | h
  · exact Or.inl h
  · rcases Int.lt_or_le 2 x.toInt with g | g
    · exact Or.inr g
    · exfalso
      rcases (show x.toInt = 0 ∨ x.toInt = 1 ∨ x.toInt = 2 by omega) with h | h | h
      · exact h0 (gz_toI (by decide) h)
      · exact h1 (gz_toI (by decide) h)
      · exact h2 (gz_toI (by decide) h)
theorem gz_out4 {x : Int32} (h0 : ¬ x = (0 : Int32)) (h1 : ¬ x = (1 : Int32)) (h2 : ¬ x = (2 : Int32)) (h3 : ¬ x = (3 : Int32)) : x.toInt < 0 ∨ 3 < x.toInt := by
  rcases Int.lt_or_le x.toInt 0 with h | h
  · exact Or.inl h
  · rcases Int.lt_or_le 3 x.toInt with g | g
    · exact Or.inr g
    · exfalso
      rcases (show x.toInt = 0 ∨ x.toInt = 1 ∨ x.toInt = 2 ∨ x.toInt = 3 by omega) with h | h | h | h
      · exact h0 (gz_toI (by decide) h)
      · exact h1 (gz_toI (by decide) h)
      · exact h2 (gz_toI (by decide) h)
      · exact h3 (gz_toI (by decide) h)
theorem gz_out5 {x : Int32} (h0 : ¬ x = (0 : Int32)) (h1 : ¬ x = (1 : Int32)) (h2 : ¬ x = (2 : Int32)) (h3 : ¬ x = (3 : Int32)) (h4 : ¬ x = (4 : Int32)) : x.toInt < 0 ∨ 4 < x.toInt := by
  rcases Int.lt_or_le x.toInt 0 with h | h
  · exact Or.inl h
  · rcases Int.lt_or_le 4 x.toInt with g | g
    · exact Or.inr g
    · exfalso
      rcases (show x.toInt = 0 ∨ x.toInt = 1 ∨ x.toInt = 2 ∨ x.toInt = 3 ∨ x.toInt = 4 by omega) with h | h | h | h | h
      · exact h0 (gz_toI (by decide) h)
      · exact h1 (gz_toI (by decide) h)
      · exact h2 (gz_toI (by decide) h)
      · exact h3 (gz_toI (by decide) h)
      · exact h4 (gz_toI (by decide) h)
theorem gz_ne {x k : Int32} (h : ¬ x = k) : ¬ k.toInt = x.toInt := fun e => h (Int32.toInt_inj.mp e.symm)
theorem gz_lk5 {x : Int32} (h0 : ¬ x = (35 : Int32)) (h1 : ¬ x = (37 : Int32)) (h2 : ¬ x = (60 : Int32)) (h3 : ¬ x = (61 : Int32)) (h4 : ¬ x = (62 : Int32)) {a b c d e f : Int} : Op.lookupswitch.offset [(35, a), (37, b), (60, c), (61, d), (62, e)] f x.toInt = f := by
  have e0 := gz_ne h0
  have e1 := gz_ne h1
  have e2 := gz_ne h2
  have e3 := gz_ne h3
  have e4 := gz_ne h4
  have g0 : (35 : Int32).toInt = 35 := by decide
  have g1 : (37 : Int32).toInt = 37 := by decide
  have g2 : (60 : Int32).toInt = 60 := by decide
  have g3 : (61 : Int32).toInt = 61 := by decide
  have g4 : (62 : Int32).toInt = 62 := by decide
  rw [g0] at e0
  rw [g1] at e1
  rw [g2] at e2
  rw [g3] at e3
  rw [g4] at e4
  simp [Op.lookupswitch.offset, e0, e1, e2, e3, e4]
section GC
variable {p : Program} {l : Launch} {e : Env} {R : Room} {s : State} {m : MethodId} {args : Array Value} {below : List Frame} {meth : Method} {c : Code} {H : Heap} {locs : List Loc} {cells slots : Nat} {Q : State → Prop}
variable {A : Nat → Prop} {H0 : Heap} {pc : Nat} {ls : Array Slot} {rest st0 : List Value} {D : va_G} {ws : va_W} {tys : List (ClassId × FieldType)} {a : Array Value}
theorem gz_vc {S : Type} {post : S → Prop} {mc ms : Nat} {wc wr : va_W} {W1 : S → va_W} (hr : va_Run p l e R s m args below meth c H locs cells slots mc ms (F0 m pc ls st0) rest (va_Qv post (fun u t => gz_E D tys (va_A wc H.size) (W1 u) t) (va_A wc H.size) a) (va_A wc H.size)) (hP : va_P D vwCl ws H) (hD : va_D A ws) (hS : va_S A H0 H locs) (hA : ∀ q, H0.size ≤ q → A q)
    (isC isR : List Nat) (hC : isC.map (fun i => ws[i]?) = wc.map some) (hR : isR.map (fun i => ws[i]?) = wr.map some) (hn : va_nd isR = true) (hdis : ∀ i ∈ isR, i ∉ isC)
    (kk : ∀ (u : S) (H1 : Heap) (locs1 : List Loc), post u → va_P D vwCl (wr ++ W1 u) H1 → va_D A (wr ++ W1 u) → va_S A H0 H1 locs1 → W p l e R s m args below meth c H1 locs1 (cells + mc) (slots + ms) Q (F0 m (pc + 3) ls rest)) : W p l e R s m args below meth c H locs cells slots Q (F0 m pc ls st0) := by
  have hFc := va_free (wc := wc) hD hS hA isC hC
  refine va_callv hr hS (fun q _ h => hFc q h) hFc (fun u t H1 locs1 ht hvm hw hB hz1 hk1 hS1 => ?_)
  obtain ⟨hP1, -, hD1⟩ := hB
  rw [ht] at hP1
  obtain ⟨hP2, hD2⟩ := va_join hP hD isC isR hC hR hn hdis hk1 hFc hP1 hD1
  exact kk u H1 locs1 hw hP2 hD2 hS1
theorem gz_tyI {cA cI : ClassId} {cl : List vw_C} {tys : List (ClassId × FieldType)} (k : Nat) (hk : tys[k]? = some (cI, .int)) (h : va_K D cl (tys ++ [(cA, .int)]) s) : cA = cI := by
  have h1 := (h.2 k _ (by rw [List.getElem?_append_left (List.getElem?_eq_some_iff.mp hk).1]; exact hk)).2
  have h2 := (h.2 tys.length (cA, .int) (by simp)).2
  exact Option.some.inj (Eq.trans (Eq.symm (show s.vm.findClass _ = some cA from h2)) (show s.vm.findClass _ = some cI from h1))
theorem gz_tyJ {cA cI : ClassId} {cl : List vw_C} {tys : List (ClassId × FieldType)} (k : Nat) (hk : tys[k]? = some (cI, .long)) (h : va_K D cl (tys ++ [(cA, .long)]) s) : cA = cI := by
  have h1 := (h.2 k _ (by rw [List.getElem?_append_left (List.getElem?_eq_some_iff.mp hk).1]; exact hk)).2
  have h2 := (h.2 tys.length (cA, .long) (by simp)).2
  exact Option.some.inj (Eq.trans (Eq.symm (show s.vm.findClass _ = some cA from h2)) (show s.vm.findClass _ = some cI from h1))
theorem gz_tyC {cA cI : ClassId} {cl : List vw_C} {tys : List (ClassId × FieldType)} (k : Nat) (hk : tys[k]? = some (cI, .char)) (h : va_K D cl (tys ++ [(cA, .char)]) s) : cA = cI := by
  have h1 := (h.2 k _ (by rw [List.getElem?_append_left (List.getElem?_eq_some_iff.mp hk).1]; exact hk)).2
  have h2 := (h.2 tys.length (cA, .char) (by simp)).2
  exact Option.some.inj (Eq.trans (Eq.symm (show s.vm.findClass _ = some cA from h2)) (show s.vm.findClass _ = some cI from h1))
theorem gz_tyZ {cA cI : ClassId} {cl : List vw_C} {tys : List (ClassId × FieldType)} (k : Nat) (hk : tys[k]? = some (cI, .boolean)) (h : va_K D cl (tys ++ [(cA, .boolean)]) s) : cA = cI := by
  have h1 := (h.2 k _ (by rw [List.getElem?_append_left (List.getElem?_eq_some_iff.mp hk).1]; exact hk)).2
  have h2 := (h.2 tys.length (cA, .boolean) (by simp)).2
  exact Option.some.inj (Eq.trans (Eq.symm (show s.vm.findClass _ = some cA from h2)) (show s.vm.findClass _ = some cI from h1))
end GC
section GD
variable {l : Launch} {y : MethodName} {ws ws' : List Cond} {rm : Room} {cc : ByteArray} {maxL : Nat} {D : va_G} {tys : List (ClassId × FieldType)} {Ns : List (String × Nat × MethodName × String)} {sz mc ms : Nat} {av : List Value} {w0 : va_W} {S : Type} {W1 : S → va_W}
theorem gz_mc {post : S → Prop} (hy : plainFor y = true) (hw : ws = Cond.code y cc maxL none :: ws') (hav : (lg_sl av).length ≤ maxL) (hyn : y.name = "<init>")
    (body : ∀ (p : Program) (e : Env) (s : State) (m : MethodId) (below : List Frame) (meth : Method) (c : Code) (A : Nat → Prop) (QQ : State → Prop) (ls : Array Slot), p.tables.exec = Jvm.exec → c.code = cc → c.maxLocals = maxL → s.vm.findClass y.cls = some m.cls → (∀ w ∈ ws, w.before av.toArray s = true) → va_K D vwCl tys s → gz_N Ns s → (∀ q, s.heap.size ≤ q → A q) → va_P D vwCl w0 s.heap → va_D A w0 → va_S A s.heap s.heap [] → lv_has ls maxL (lv_args 0 av) → meth.name = "<init>" →
      (∀ (H : Heap) (locs : List Loc) (pc : Nat) (ls : Array Slot) (u : S), post u → va_P D vwCl (W1 u) H → va_D A (W1 u) → va_S A s.heap H locs → decode cc pc = .ok (.return_, 1) → W p l e rm s m av.toArray below meth c H locs mc ms QQ (F0 m pc ls [])) → W p l e rm s m av.toArray below meth c s.heap [] 0 0 QQ (F0 m 0 ls [])) :
    Met l y ws rm (va_Pc av (gz_B D tys Ns sz w0)) (va_Qv post (fun u t => gz_E D tys (va_A w0 sz) (W1 u) t) (va_A w0 sz)) mc ms (va_A w0 sz) := by
  refine gz_ofW (cc := cc) (maxL := maxL) (ret := none) hy hw ?_
  intro p e s m args below meth c s₁ B hml hv
  obtain ⟨rfl, hsz, hP, hK, hD0, hN⟩ := hv
  have hr := B.returns
  have hts := atoms_spec (ws := ws) B.pre
  have hown : s.vm.findClass y.cls = some m.cls := findClass_of_methodNamed B.named
  have hlocks := B.notSynchronized
  have hin : meth.name = "<init>" := (name_of_methodNamed B.named B.method).1.trans hyn
  subst hsz
  have hD := hD0.self (sz := s.heap.size)
  have hA : ∀ q : Nat, s.heap.size ≤ q → va_A w0 s.heap.size q := fun q h => Or.inr h
  generalize va_A w0 s.heap.size = A at hD hA ⊢
  have hl := lv_entry av (n := maxL) hav
  rw [lg_entry_eq]
  generalize (lg_sl av ++ List.replicate (maxL - (lg_sl av).length) Slot.unset).toArray = ls at hl ⊢
  refine body p e s m below meth c A _ ls B.exec B.bytes hml hown hts hK hN hA hP hD va_S.rf hl hin ?_
  intro H locs pc ls u hpost hP hD hS hdg
  exact W.vret B.exec B.bytes hr (fun t ht hW => ⟨⟨u, rfl, hpost, by rw [ht]; exact hP, va_K.moved hW.alike hK, hD⟩, hS.F ht⟩) hS.2.2 hdg
end GD
theorem gi1_inv {A1 : Type} {f : (A1 → Prop) → A1 → Prop} (N : Nat) (I : Nat → A1 → Prop) (hs : ∀ i, i < N → ∀ (X : A1 → Prop) (a1 : A1), I i a1 → (∀ (b1 : A1), I (i + 1) b1 → X b1) → f X a1) (he : ∀ (X : A1 → Prop) (a1 : A1), I N a1 → f X a1) {a1 : A1} (h0 : I 0 a1) : ∃ n, gi1 f n a1 := by
  suffices h : ∀ (d i : Nat) (a1 : A1), i + d = N → I i a1 → gi1 f (d + 1) a1 from ⟨N + 1, h N 0 _ (by omega) h0⟩
  intro d
  induction d with
  | zero =>
    intro i a1 hi h
    have hi : i = N := by omega
    subst hi
    exact he _ _ h
  | succ d ih =>
    intro i a1 hi h
    exact hs i (by omega) _ _ h (fun b1 hb => ih (i + 1) _ (by omega) hb)
theorem gi2_inv {A1 A2 : Type} {f : (A1 → A2 → Prop) → A1 → A2 → Prop} (N : Nat) (I : Nat → A1 → A2 → Prop) (hs : ∀ i, i < N → ∀ (X : A1 → A2 → Prop) (a1 : A1) (a2 : A2), I i a1 a2 → (∀ (b1 : A1) (b2 : A2), I (i + 1) b1 b2 → X b1 b2) → f X a1 a2) (he : ∀ (X : A1 → A2 → Prop) (a1 : A1) (a2 : A2), I N a1 a2 → f X a1 a2) {a1 : A1} {a2 : A2} (h0 : I 0 a1 a2) : ∃ n, gi2 f n a1 a2 := by
  suffices h : ∀ (d i : Nat) (a1 : A1) (a2 : A2), i + d = N → I i a1 a2 → gi2 f (d + 1) a1 a2 from ⟨N + 1, h N 0 _ _ (by omega) h0⟩
  intro d
  induction d with
  | zero =>
    intro i a1 a2 hi h
    have hi : i = N := by omega
    subst hi
    exact he _ _ _ h
  | succ d ih =>
    intro i a1 a2 hi h
    exact hs i (by omega) _ _ _ h (fun b1 b2 hb => ih (i + 1) _ _ (by omega) hb)
theorem gi3_inv {A1 A2 A3 : Type} {f : (A1 → A2 → A3 → Prop) → A1 → A2 → A3 → Prop} (N : Nat) (I : Nat → A1 → A2 → A3 → Prop) (hs : ∀ i, i < N → ∀ (X : A1 → A2 → A3 → Prop) (a1 : A1) (a2 : A2) (a3 : A3), I i a1 a2 a3 → (∀ (b1 : A1) (b2 : A2) (b3 : A3), I (i + 1) b1 b2 b3 → X b1 b2 b3) → f X a1 a2 a3) (he : ∀ (X : A1 → A2 → A3 → Prop) (a1 : A1) (a2 : A2) (a3 : A3), I N a1 a2 a3 → f X a1 a2 a3) {a1 : A1} {a2 : A2} {a3 : A3} (h0 : I 0 a1 a2 a3) : ∃ n, gi3 f n a1 a2 a3 := by
  suffices h : ∀ (d i : Nat) (a1 : A1) (a2 : A2) (a3 : A3), i + d = N → I i a1 a2 a3 → gi3 f (d + 1) a1 a2 a3 from ⟨N + 1, h N 0 _ _ _ (by omega) h0⟩
  intro d
  induction d with
  | zero =>
    intro i a1 a2 a3 hi h
    have hi : i = N := by omega
    subst hi
    exact he _ _ _ _ h
  | succ d ih =>
    intro i a1 a2 a3 hi h
    exact hs i (by omega) _ _ _ _ h (fun b1 b2 b3 hb => ih (i + 1) _ _ _ (by omega) hb)
theorem gi4_inv {A1 A2 A3 A4 : Type} {f : (A1 → A2 → A3 → A4 → Prop) → A1 → A2 → A3 → A4 → Prop} (N : Nat) (I : Nat → A1 → A2 → A3 → A4 → Prop) (hs : ∀ i, i < N → ∀ (X : A1 → A2 → A3 → A4 → Prop) (a1 : A1) (a2 : A2) (a3 : A3) (a4 : A4), I i a1 a2 a3 a4 → (∀ (b1 : A1) (b2 : A2) (b3 : A3) (b4 : A4), I (i + 1) b1 b2 b3 b4 → X b1 b2 b3 b4) → f X a1 a2 a3 a4) (he : ∀ (X : A1 → A2 → A3 → A4 → Prop) (a1 : A1) (a2 : A2) (a3 : A3) (a4 : A4), I N a1 a2 a3 a4 → f X a1 a2 a3 a4) {a1 : A1} {a2 : A2} {a3 : A3} {a4 : A4} (h0 : I 0 a1 a2 a3 a4) : ∃ n, gi4 f n a1 a2 a3 a4 := by
  suffices h : ∀ (d i : Nat) (a1 : A1) (a2 : A2) (a3 : A3) (a4 : A4), i + d = N → I i a1 a2 a3 a4 → gi4 f (d + 1) a1 a2 a3 a4 from ⟨N + 1, h N 0 _ _ _ _ (by omega) h0⟩
  intro d
  induction d with
  | zero =>
    intro i a1 a2 a3 a4 hi h
    have hi : i = N := by omega
    subst hi
    exact he _ _ _ _ _ h
  | succ d ih =>
    intro i a1 a2 a3 a4 hi h
    exact hs i (by omega) _ _ _ _ _ h (fun b1 b2 b3 b4 hb => ih (i + 1) _ _ _ _ (by omega) hb)
theorem gi5_inv {A1 A2 A3 A4 A5 : Type} {f : (A1 → A2 → A3 → A4 → A5 → Prop) → A1 → A2 → A3 → A4 → A5 → Prop} (N : Nat) (I : Nat → A1 → A2 → A3 → A4 → A5 → Prop) (hs : ∀ i, i < N → ∀ (X : A1 → A2 → A3 → A4 → A5 → Prop) (a1 : A1) (a2 : A2) (a3 : A3) (a4 : A4) (a5 : A5), I i a1 a2 a3 a4 a5 → (∀ (b1 : A1) (b2 : A2) (b3 : A3) (b4 : A4) (b5 : A5), I (i + 1) b1 b2 b3 b4 b5 → X b1 b2 b3 b4 b5) → f X a1 a2 a3 a4 a5) (he : ∀ (X : A1 → A2 → A3 → A4 → A5 → Prop) (a1 : A1) (a2 : A2) (a3 : A3) (a4 : A4) (a5 : A5), I N a1 a2 a3 a4 a5 → f X a1 a2 a3 a4 a5) {a1 : A1} {a2 : A2} {a3 : A3} {a4 : A4} {a5 : A5} (h0 : I 0 a1 a2 a3 a4 a5) : ∃ n, gi5 f n a1 a2 a3 a4 a5 := by
  suffices h : ∀ (d i : Nat) (a1 : A1) (a2 : A2) (a3 : A3) (a4 : A4) (a5 : A5), i + d = N → I i a1 a2 a3 a4 a5 → gi5 f (d + 1) a1 a2 a3 a4 a5 from ⟨N + 1, h N 0 _ _ _ _ _ (by omega) h0⟩
  intro d
  induction d with
  | zero =>
    intro i a1 a2 a3 a4 a5 hi h
    have hi : i = N := by omega
    subst hi
    exact he _ _ _ _ _ _ h
  | succ d ih =>
    intro i a1 a2 a3 a4 a5 hi h
    exact hs i (by omega) _ _ _ _ _ _ h (fun b1 b2 b3 b4 b5 hb => ih (i + 1) _ _ _ _ _ (by omega) hb)
theorem gi6_inv {A1 A2 A3 A4 A5 A6 : Type} {f : (A1 → A2 → A3 → A4 → A5 → A6 → Prop) → A1 → A2 → A3 → A4 → A5 → A6 → Prop} (N : Nat) (I : Nat → A1 → A2 → A3 → A4 → A5 → A6 → Prop) (hs : ∀ i, i < N → ∀ (X : A1 → A2 → A3 → A4 → A5 → A6 → Prop) (a1 : A1) (a2 : A2) (a3 : A3) (a4 : A4) (a5 : A5) (a6 : A6), I i a1 a2 a3 a4 a5 a6 → (∀ (b1 : A1) (b2 : A2) (b3 : A3) (b4 : A4) (b5 : A5) (b6 : A6), I (i + 1) b1 b2 b3 b4 b5 b6 → X b1 b2 b3 b4 b5 b6) → f X a1 a2 a3 a4 a5 a6) (he : ∀ (X : A1 → A2 → A3 → A4 → A5 → A6 → Prop) (a1 : A1) (a2 : A2) (a3 : A3) (a4 : A4) (a5 : A5) (a6 : A6), I N a1 a2 a3 a4 a5 a6 → f X a1 a2 a3 a4 a5 a6) {a1 : A1} {a2 : A2} {a3 : A3} {a4 : A4} {a5 : A5} {a6 : A6} (h0 : I 0 a1 a2 a3 a4 a5 a6) : ∃ n, gi6 f n a1 a2 a3 a4 a5 a6 := by
  suffices h : ∀ (d i : Nat) (a1 : A1) (a2 : A2) (a3 : A3) (a4 : A4) (a5 : A5) (a6 : A6), i + d = N → I i a1 a2 a3 a4 a5 a6 → gi6 f (d + 1) a1 a2 a3 a4 a5 a6 from ⟨N + 1, h N 0 _ _ _ _ _ _ (by omega) h0⟩
  intro d
  induction d with
  | zero =>
    intro i a1 a2 a3 a4 a5 a6 hi h
    have hi : i = N := by omega
    subst hi
    exact he _ _ _ _ _ _ _ h
  | succ d ih =>
    intro i a1 a2 a3 a4 a5 a6 hi h
    exact hs i (by omega) _ _ _ _ _ _ _ h (fun b1 b2 b3 b4 b5 b6 hb => ih (i + 1) _ _ _ _ _ _ (by omega) hb)
theorem gi7_inv {A1 A2 A3 A4 A5 A6 A7 : Type} {f : (A1 → A2 → A3 → A4 → A5 → A6 → A7 → Prop) → A1 → A2 → A3 → A4 → A5 → A6 → A7 → Prop} (N : Nat) (I : Nat → A1 → A2 → A3 → A4 → A5 → A6 → A7 → Prop) (hs : ∀ i, i < N → ∀ (X : A1 → A2 → A3 → A4 → A5 → A6 → A7 → Prop) (a1 : A1) (a2 : A2) (a3 : A3) (a4 : A4) (a5 : A5) (a6 : A6) (a7 : A7), I i a1 a2 a3 a4 a5 a6 a7 → (∀ (b1 : A1) (b2 : A2) (b3 : A3) (b4 : A4) (b5 : A5) (b6 : A6) (b7 : A7), I (i + 1) b1 b2 b3 b4 b5 b6 b7 → X b1 b2 b3 b4 b5 b6 b7) → f X a1 a2 a3 a4 a5 a6 a7) (he : ∀ (X : A1 → A2 → A3 → A4 → A5 → A6 → A7 → Prop) (a1 : A1) (a2 : A2) (a3 : A3) (a4 : A4) (a5 : A5) (a6 : A6) (a7 : A7), I N a1 a2 a3 a4 a5 a6 a7 → f X a1 a2 a3 a4 a5 a6 a7) {a1 : A1} {a2 : A2} {a3 : A3} {a4 : A4} {a5 : A5} {a6 : A6} {a7 : A7} (h0 : I 0 a1 a2 a3 a4 a5 a6 a7) : ∃ n, gi7 f n a1 a2 a3 a4 a5 a6 a7 := by
  suffices h : ∀ (d i : Nat) (a1 : A1) (a2 : A2) (a3 : A3) (a4 : A4) (a5 : A5) (a6 : A6) (a7 : A7), i + d = N → I i a1 a2 a3 a4 a5 a6 a7 → gi7 f (d + 1) a1 a2 a3 a4 a5 a6 a7 from ⟨N + 1, h N 0 _ _ _ _ _ _ _ (by omega) h0⟩
  intro d
  induction d with
  | zero =>
    intro i a1 a2 a3 a4 a5 a6 a7 hi h
    have hi : i = N := by omega
    subst hi
    exact he _ _ _ _ _ _ _ _ h
  | succ d ih =>
    intro i a1 a2 a3 a4 a5 a6 a7 hi h
    exact hs i (by omega) _ _ _ _ _ _ _ _ h (fun b1 b2 b3 b4 b5 b6 b7 hb => ih (i + 1) _ _ _ _ _ _ _ (by omega) hb)
theorem gi8_inv {A1 A2 A3 A4 A5 A6 A7 A8 : Type} {f : (A1 → A2 → A3 → A4 → A5 → A6 → A7 → A8 → Prop) → A1 → A2 → A3 → A4 → A5 → A6 → A7 → A8 → Prop} (N : Nat) (I : Nat → A1 → A2 → A3 → A4 → A5 → A6 → A7 → A8 → Prop) (hs : ∀ i, i < N → ∀ (X : A1 → A2 → A3 → A4 → A5 → A6 → A7 → A8 → Prop) (a1 : A1) (a2 : A2) (a3 : A3) (a4 : A4) (a5 : A5) (a6 : A6) (a7 : A7) (a8 : A8), I i a1 a2 a3 a4 a5 a6 a7 a8 → (∀ (b1 : A1) (b2 : A2) (b3 : A3) (b4 : A4) (b5 : A5) (b6 : A6) (b7 : A7) (b8 : A8), I (i + 1) b1 b2 b3 b4 b5 b6 b7 b8 → X b1 b2 b3 b4 b5 b6 b7 b8) → f X a1 a2 a3 a4 a5 a6 a7 a8) (he : ∀ (X : A1 → A2 → A3 → A4 → A5 → A6 → A7 → A8 → Prop) (a1 : A1) (a2 : A2) (a3 : A3) (a4 : A4) (a5 : A5) (a6 : A6) (a7 : A7) (a8 : A8), I N a1 a2 a3 a4 a5 a6 a7 a8 → f X a1 a2 a3 a4 a5 a6 a7 a8) {a1 : A1} {a2 : A2} {a3 : A3} {a4 : A4} {a5 : A5} {a6 : A6} {a7 : A7} {a8 : A8} (h0 : I 0 a1 a2 a3 a4 a5 a6 a7 a8) : ∃ n, gi8 f n a1 a2 a3 a4 a5 a6 a7 a8 := by
  suffices h : ∀ (d i : Nat) (a1 : A1) (a2 : A2) (a3 : A3) (a4 : A4) (a5 : A5) (a6 : A6) (a7 : A7) (a8 : A8), i + d = N → I i a1 a2 a3 a4 a5 a6 a7 a8 → gi8 f (d + 1) a1 a2 a3 a4 a5 a6 a7 a8 from ⟨N + 1, h N 0 _ _ _ _ _ _ _ _ (by omega) h0⟩
  intro d
  induction d with
  | zero =>
    intro i a1 a2 a3 a4 a5 a6 a7 a8 hi h
    have hi : i = N := by omega
    subst hi
    exact he _ _ _ _ _ _ _ _ _ h
  | succ d ih =>
    intro i a1 a2 a3 a4 a5 a6 a7 a8 hi h
    exact hs i (by omega) _ _ _ _ _ _ _ _ _ h (fun b1 b2 b3 b4 b5 b6 b7 b8 hb => ih (i + 1) _ _ _ _ _ _ _ _ (by omega) hb)
