theorem s_bI {b : Bool} {P Q : Prop} (h1 : b = true → Q) (h0 : ¬ b = true → P) : ((if b = true then (1 : Int32) else 0) = 0 → P) ∧ (¬ (if b = true then (1 : Int32) else 0) = 0 → Q) := by
  by_cases h : b = true
  · rw [if_pos h]
    exact ⟨g10, fun _ => h1 h⟩
  · rw [if_neg h]
    exact ⟨fun _ => h0 h, g00⟩
def gpk (r d t : Bool) : Nat := (if r = true then 1 else 0) + (if d = true then 2 else 0) + (if t = true then 4 else 0)
theorem gpk_0 : ∀ r : Bool, ((0 : Int32) ||| (if r = true then (1 : Int32) <<< (nI 0 &&& 31) else 0)) ||| 0 = nI (gpk r false false) := by decide
theorem gpk_1 : ∀ r d t : Bool, (nI (gpk r false false) ||| (if d = true then (1 : Int32) <<< (nI 1 &&& 31) else 0)) ||| (if t = true then 4 else 0) = nI (gpk r d t) := by decide
theorem gpk_A (x : Int32) (B b t : Bool) : ((if (0 : Nat) = 0 then 0 else x) ||| (if B = true then (1 : Int32) <<< (nI 0 &&& 31) else 0)) ||| (if (b && decide ((0 : Nat) = 1) && t) = true then 4 else 0) = nI (gpk B false false) := by
  have hz : (b && decide ((0 : Nat) = 1) && t) = false := by cases b <;> rfl
  rw [if_pos rfl, hz, if_neg Bool.false_ne_true]
  exact gpk_0 _
theorem gpk_B : ∀ r B b t : Bool, ((if (1 : Nat) = 0 then 0 else nI (gpk r false false)) ||| (if B = true then (1 : Int32) <<< (nI 1 &&& 31) else 0)) ||| (if (b && decide ((1 : Nat) = 1) && t) = true then 4 else 0) = nI (gpk r B (b && t)) := by decide
theorem gpk_b : ∀ r d t : Bool, ((nI (gpk r d t) &&& (1 : Int32) = 1) ↔ r = true) ∧ ((nI (gpk r d t) &&& (2 : Int32) = 2) ↔ d = true) ∧ ((nI (gpk r d t) &&& (4 : Int32) = 4) ↔ t = true) := by decide
def gbR (S T : List (Nat → Int32)) (mo v p : Nat) : Bool := gbase mo v p && gin T p
def gbT (S : List (Nat → Int32)) (mo v p : Nat) : Bool := gbase mo v p && gtrue S mo v p
def gcw (w : Nat) (r d t : Bool) : Bool := if w = 0 then r else if w = 1 then d else if w = 2 then t else if w = 3 then r && !d else (r && !d) && t
theorem gcw_eq (w : Nat) (b r d t : Bool) : gcw w (b && r) (b && d) (b && t) = (b && (if w = 0 then r else if w = 1 then d else if w = 2 then t else if w = 3 then r && !d else (r && !d) && t)) := by
  unfold gcw
  cases b
  · simp
  · simp
