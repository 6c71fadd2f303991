/-! loops by what is left -/
theorem gi1_ix {A1 : Type} {f : (A1 → Prop) → A1 → Prop} (I : Nat → A1 → Prop) (hs : ∀ (i : Nat) (X : A1 → Prop) (a1 : A1), I i a1 → (∀ (j : Nat) (b1 : A1), j < i → I j b1 → X b1) → f X a1) (i : Nat) {a1 : A1} (h : I i a1) : ∃ n, gi1 f n a1 := by
  suffices key : ∀ (m i : Nat) (a1 : A1), i < m → I i a1 → gi1 f m a1 from ⟨i + 1, key _ _ _ (Nat.lt_succ_self i) h⟩
  intro m
  induction m with
  | zero => intro i a1 hi _; exact absurd hi (Nat.not_lt_zero i)
  | succ m ih =>
    intro i a1 hi h
    exact hs i _ _ h (fun j b1 hj hb => ih j _ (by omega) hb)
theorem gi2_ix {A1 A2 : Type} {f : (A1 → A2 → Prop) → A1 → A2 → Prop} (I : Nat → A1 → A2 → Prop) (hs : ∀ (i : Nat) (X : A1 → A2 → Prop) (a1 : A1) (a2 : A2), I i a1 a2 → (∀ (j : Nat) (b1 : A1) (b2 : A2), j < i → I j b1 b2 → X b1 b2) → f X a1 a2) (i : Nat) {a1 : A1} {a2 : A2} (h : I i a1 a2) : ∃ n, gi2 f n a1 a2 := by
  suffices key : ∀ (m i : Nat) (a1 : A1) (a2 : A2), i < m → I i a1 a2 → gi2 f m a1 a2 from ⟨i + 1, key _ _ _ _ (Nat.lt_succ_self i) h⟩
  intro m
  induction m with
  | zero => intro i a1 a2 hi _; exact absurd hi (Nat.not_lt_zero i)
  | succ m ih =>
    intro i a1 a2 hi h
    exact hs i _ _ _ h (fun j b1 b2 hj hb => ih j _ _ (by omega) hb)
theorem gi3_ix {A1 A2 A3 : Type} {f : (A1 → A2 → A3 → Prop) → A1 → A2 → A3 → Prop} (I : Nat → A1 → A2 → A3 → Prop) (hs : ∀ (i : Nat) (X : A1 → A2 → A3 → Prop) (a1 : A1) (a2 : A2) (a3 : A3), I i a1 a2 a3 → (∀ (j : Nat) (b1 : A1) (b2 : A2) (b3 : A3), j < i → I j b1 b2 b3 → X b1 b2 b3) → f X a1 a2 a3) (i : Nat) {a1 : A1} {a2 : A2} {a3 : A3} (h : I i a1 a2 a3) : ∃ n, gi3 f n a1 a2 a3 := by
  suffices key : ∀ (m i : Nat) (a1 : A1) (a2 : A2) (a3 : A3), i < m → I i a1 a2 a3 → gi3 f m a1 a2 a3 from ⟨i + 1, key _ _ _ _ _ (Nat.lt_succ_self i) h⟩
  intro m
  induction m with
  | zero => intro i a1 a2 a3 hi _; exact absurd hi (Nat.not_lt_zero i)
  | succ m ih =>
    intro i a1 a2 a3 hi h
    exact hs i _ _ _ _ h (fun j b1 b2 b3 hj hb => ih j _ _ _ (by omega) hb)
theorem gi4_ix {A1 A2 A3 A4 : Type} {f : (A1 → A2 → A3 → A4 → Prop) → A1 → A2 → A3 → A4 → Prop} (I : Nat → A1 → A2 → A3 → A4 → Prop) (hs : ∀ (i : Nat) (X : A1 → A2 → A3 → A4 → Prop) (a1 : A1) (a2 : A2) (a3 : A3) (a4 : A4), I i a1 a2 a3 a4 → (∀ (j : Nat) (b1 : A1) (b2 : A2) (b3 : A3) (b4 : A4), j < i → I j b1 b2 b3 b4 → X b1 b2 b3 b4) → f X a1 a2 a3 a4) (i : Nat) {a1 : A1} {a2 : A2} {a3 : A3} {a4 : A4} (h : I i a1 a2 a3 a4) : ∃ n, gi4 f n a1 a2 a3 a4 := by
  suffices key : ∀ (m i : Nat) (a1 : A1) (a2 : A2) (a3 : A3) (a4 : A4), i < m → I i a1 a2 a3 a4 → gi4 f m a1 a2 a3 a4 from ⟨i + 1, key _ _ _ _ _ _ (Nat.lt_succ_self i) h⟩
  intro m
  induction m with
  | zero => intro i a1 a2 a3 a4 hi _; exact absurd hi (Nat.not_lt_zero i)
  | succ m ih =>
    intro i a1 a2 a3 a4 hi h
    exact hs i _ _ _ _ _ h (fun j b1 b2 b3 b4 hj hb => ih j _ _ _ _ (by omega) hb)
theorem gi5_ix {A1 A2 A3 A4 A5 : Type} {f : (A1 → A2 → A3 → A4 → A5 → Prop) → A1 → A2 → A3 → A4 → A5 → Prop} (I : Nat → A1 → A2 → A3 → A4 → A5 → Prop) (hs : ∀ (i : Nat) (X : A1 → A2 → A3 → A4 → A5 → Prop) (a1 : A1) (a2 : A2) (a3 : A3) (a4 : A4) (a5 : A5), I i a1 a2 a3 a4 a5 → (∀ (j : Nat) (b1 : A1) (b2 : A2) (b3 : A3) (b4 : A4) (b5 : A5), j < i → I j b1 b2 b3 b4 b5 → X b1 b2 b3 b4 b5) → f X a1 a2 a3 a4 a5) (i : Nat) {a1 : A1} {a2 : A2} {a3 : A3} {a4 : A4} {a5 : A5} (h : I i a1 a2 a3 a4 a5) : ∃ n, gi5 f n a1 a2 a3 a4 a5 := by
  suffices key : ∀ (m i : Nat) (a1 : A1) (a2 : A2) (a3 : A3) (a4 : A4) (a5 : A5), i < m → I i a1 a2 a3 a4 a5 → gi5 f m a1 a2 a3 a4 a5 from ⟨i + 1, key _ _ _ _ _ _ _ (Nat.lt_succ_self i) h⟩
  intro m
  induction m with
  | zero => intro i a1 a2 a3 a4 a5 hi _; exact absurd hi (Nat.not_lt_zero i)
  | succ m ih =>
    intro i a1 a2 a3 a4 a5 hi h
    exact hs i _ _ _ _ _ _ h (fun j b1 b2 b3 b4 b5 hj hb => ih j _ _ _ _ _ (by omega) hb)
theorem gi6_ix {A1 A2 A3 A4 A5 A6 : Type} {f : (A1 → A2 → A3 → A4 → A5 → A6 → Prop) → A1 → A2 → A3 → A4 → A5 → A6 → Prop} (I : Nat → A1 → A2 → A3 → A4 → A5 → A6 → Prop) (hs : ∀ (i : Nat) (X : A1 → A2 → A3 → A4 → A5 → A6 → Prop) (a1 : A1) (a2 : A2) (a3 : A3) (a4 : A4) (a5 : A5) (a6 : A6), I i a1 a2 a3 a4 a5 a6 → (∀ (j : Nat) (b1 : A1) (b2 : A2) (b3 : A3) (b4 : A4) (b5 : A5) (b6 : A6), j < i → I j b1 b2 b3 b4 b5 b6 → X b1 b2 b3 b4 b5 b6) → f X a1 a2 a3 a4 a5 a6) (i : Nat) {a1 : A1} {a2 : A2} {a3 : A3} {a4 : A4} {a5 : A5} {a6 : A6} (h : I i a1 a2 a3 a4 a5 a6) : ∃ n, gi6 f n a1 a2 a3 a4 a5 a6 := by
  suffices key : ∀ (m i : Nat) (a1 : A1) (a2 : A2) (a3 : A3) (a4 : A4) (a5 : A5) (a6 : A6), i < m → I i a1 a2 a3 a4 a5 a6 → gi6 f m a1 a2 a3 a4 a5 a6 from ⟨i + 1, key _ _ _ _ _ _ _ _ (Nat.lt_succ_self i) h⟩
  intro m
  induction m with
  | zero => intro i a1 a2 a3 a4 a5 a6 hi _; exact absurd hi (Nat.not_lt_zero i)
  | succ m ih =>
    intro i a1 a2 a3 a4 a5 a6 hi h
    exact hs i _ _ _ _ _ _ _ h (fun j b1 b2 b3 b4 b5 b6 hj hb => ih j _ _ _ _ _ _ (by omega) hb)
theorem gi7_ix {A1 A2 A3 A4 A5 A6 A7 : Type} {f : (A1 → A2 → A3 → A4 → A5 → A6 → A7 → Prop) → A1 → A2 → A3 → A4 → A5 → A6 → A7 → Prop} (I : Nat → A1 → A2 → A3 → A4 → A5 → A6 → A7 → Prop) (hs : ∀ (i : Nat) (X : A1 → A2 → A3 → A4 → A5 → A6 → A7 → Prop) (a1 : A1) (a2 : A2) (a3 : A3) (a4 : A4) (a5 : A5) (a6 : A6) (a7 : A7), I i a1 a2 a3 a4 a5 a6 a7 → (∀ (j : Nat) (b1 : A1) (b2 : A2) (b3 : A3) (b4 : A4) (b5 : A5) (b6 : A6) (b7 : A7), j < i → I j b1 b2 b3 b4 b5 b6 b7 → X b1 b2 b3 b4 b5 b6 b7) → f X a1 a2 a3 a4 a5 a6 a7) (i : Nat) {a1 : A1} {a2 : A2} {a3 : A3} {a4 : A4} {a5 : A5} {a6 : A6} {a7 : A7} (h : I i a1 a2 a3 a4 a5 a6 a7) : ∃ n, gi7 f n a1 a2 a3 a4 a5 a6 a7 := by
  suffices key : ∀ (m i : Nat) (a1 : A1) (a2 : A2) (a3 : A3) (a4 : A4) (a5 : A5) (a6 : A6) (a7 : A7), i < m → I i a1 a2 a3 a4 a5 a6 a7 → gi7 f m a1 a2 a3 a4 a5 a6 a7 from ⟨i + 1, key _ _ _ _ _ _ _ _ _ (Nat.lt_succ_self i) h⟩
  intro m
  induction m with
  | zero => intro i a1 a2 a3 a4 a5 a6 a7 hi _; exact absurd hi (Nat.not_lt_zero i)
  | succ m ih =>
    intro i a1 a2 a3 a4 a5 a6 a7 hi h
    exact hs i _ _ _ _ _ _ _ _ h (fun j b1 b2 b3 b4 b5 b6 b7 hj hb => ih j _ _ _ _ _ _ _ (by omega) hb)
theorem gi8_ix {A1 A2 A3 A4 A5 A6 A7 A8 : Type} {f : (A1 → A2 → A3 → A4 → A5 → A6 → A7 → A8 → Prop) → A1 → A2 → A3 → A4 → A5 → A6 → A7 → A8 → Prop} (I : Nat → A1 → A2 → A3 → A4 → A5 → A6 → A7 → A8 → Prop) (hs : ∀ (i : Nat) (X : A1 → A2 → A3 → A4 → A5 → A6 → A7 → A8 → Prop) (a1 : A1) (a2 : A2) (a3 : A3) (a4 : A4) (a5 : A5) (a6 : A6) (a7 : A7) (a8 : A8), I i a1 a2 a3 a4 a5 a6 a7 a8 → (∀ (j : Nat) (b1 : A1) (b2 : A2) (b3 : A3) (b4 : A4) (b5 : A5) (b6 : A6) (b7 : A7) (b8 : A8), j < i → I j b1 b2 b3 b4 b5 b6 b7 b8 → X b1 b2 b3 b4 b5 b6 b7 b8) → f X a1 a2 a3 a4 a5 a6 a7 a8) (i : Nat) {a1 : A1} {a2 : A2} {a3 : A3} {a4 : A4} {a5 : A5} {a6 : A6} {a7 : A7} {a8 : A8} (h : I i a1 a2 a3 a4 a5 a6 a7 a8) : ∃ n, gi8 f n a1 a2 a3 a4 a5 a6 a7 a8 := by
  suffices key : ∀ (m i : Nat) (a1 : A1) (a2 : A2) (a3 : A3) (a4 : A4) (a5 : A5) (a6 : A6) (a7 : A7) (a8 : A8), i < m → I i a1 a2 a3 a4 a5 a6 a7 a8 → gi8 f m a1 a2 a3 a4 a5 a6 a7 a8 from ⟨i + 1, key _ _ _ _ _ _ _ _ _ _ (Nat.lt_succ_self i) h⟩
  intro m
  induction m with
  | zero => intro i a1 a2 a3 a4 a5 a6 a7 a8 hi _; exact absurd hi (Nat.not_lt_zero i)
  | succ m ih =>
    intro i a1 a2 a3 a4 a5 a6 a7 a8 hi h
    exact hs i _ _ _ _ _ _ _ _ _ h (fun j b1 b2 b3 b4 b5 b6 b7 b8 hj hb => ih j _ _ _ _ _ _ _ _ (by omega) hb)
theorem gi9_ix {A1 A2 A3 A4 A5 A6 A7 A8 A9 : Type} {f : (A1 → A2 → A3 → A4 → A5 → A6 → A7 → A8 → A9 → Prop) → A1 → A2 → A3 → A4 → A5 → A6 → A7 → A8 → A9 → Prop} (I : Nat → A1 → A2 → A3 → A4 → A5 → A6 → A7 → A8 → A9 → Prop) (hs : ∀ (i : Nat) (X : A1 → A2 → A3 → A4 → A5 → A6 → A7 → A8 → A9 → Prop) (a1 : A1) (a2 : A2) (a3 : A3) (a4 : A4) (a5 : A5) (a6 : A6) (a7 : A7) (a8 : A8) (a9 : A9), I i a1 a2 a3 a4 a5 a6 a7 a8 a9 → (∀ (j : Nat) (b1 : A1) (b2 : A2) (b3 : A3) (b4 : A4) (b5 : A5) (b6 : A6) (b7 : A7) (b8 : A8) (b9 : A9), j < i → I j b1 b2 b3 b4 b5 b6 b7 b8 b9 → X b1 b2 b3 b4 b5 b6 b7 b8 b9) → f X a1 a2 a3 a4 a5 a6 a7 a8 a9) (i : Nat) {a1 : A1} {a2 : A2} {a3 : A3} {a4 : A4} {a5 : A5} {a6 : A6} {a7 : A7} {a8 : A8} {a9 : A9} (h : I i a1 a2 a3 a4 a5 a6 a7 a8 a9) : ∃ n, gi9 f n a1 a2 a3 a4 a5 a6 a7 a8 a9 := by
  suffices key : ∀ (m i : Nat) (a1 : A1) (a2 : A2) (a3 : A3) (a4 : A4) (a5 : A5) (a6 : A6) (a7 : A7) (a8 : A8) (a9 : A9), i < m → I i a1 a2 a3 a4 a5 a6 a7 a8 a9 → gi9 f m a1 a2 a3 a4 a5 a6 a7 a8 a9 from ⟨i + 1, key _ _ _ _ _ _ _ _ _ _ _ (Nat.lt_succ_self i) h⟩
  intro m
  induction m with
  | zero => intro i a1 a2 a3 a4 a5 a6 a7 a8 a9 hi _; exact absurd hi (Nat.not_lt_zero i)
  | succ m ih =>
    intro i a1 a2 a3 a4 a5 a6 a7 a8 a9 hi h
    exact hs i _ _ _ _ _ _ _ _ _ _ h (fun j b1 b2 b3 b4 b5 b6 b7 b8 b9 hj hb => ih j _ _ _ _ _ _ _ _ _ (by omega) hb)
theorem gi10_ix {A1 A2 A3 A4 A5 A6 A7 A8 A9 A10 : Type} {f : (A1 → A2 → A3 → A4 → A5 → A6 → A7 → A8 → A9 → A10 → Prop) → A1 → A2 → A3 → A4 → A5 → A6 → A7 → A8 → A9 → A10 → Prop} (I : Nat → A1 → A2 → A3 → A4 → A5 → A6 → A7 → A8 → A9 → A10 → Prop) (hs : ∀ (i : Nat) (X : A1 → A2 → A3 → A4 → A5 → A6 → A7 → A8 → A9 → A10 → Prop) (a1 : A1) (a2 : A2) (a3 : A3) (a4 : A4) (a5 : A5) (a6 : A6) (a7 : A7) (a8 : A8) (a9 : A9) (a10 : A10), I i a1 a2 a3 a4 a5 a6 a7 a8 a9 a10 → (∀ (j : Nat) (b1 : A1) (b2 : A2) (b3 : A3) (b4 : A4) (b5 : A5) (b6 : A6) (b7 : A7) (b8 : A8) (b9 : A9) (b10 : A10), j < i → I j b1 b2 b3 b4 b5 b6 b7 b8 b9 b10 → X b1 b2 b3 b4 b5 b6 b7 b8 b9 b10) → f X a1 a2 a3 a4 a5 a6 a7 a8 a9 a10) (i : Nat) {a1 : A1} {a2 : A2} {a3 : A3} {a4 : A4} {a5 : A5} {a6 : A6} {a7 : A7} {a8 : A8} {a9 : A9} {a10 : A10} (h : I i a1 a2 a3 a4 a5 a6 a7 a8 a9 a10) : ∃ n, gi10 f n a1 a2 a3 a4 a5 a6 a7 a8 a9 a10 := by
  suffices key : ∀ (m i : Nat) (a1 : A1) (a2 : A2) (a3 : A3) (a4 : A4) (a5 : A5) (a6 : A6) (a7 : A7) (a8 : A8) (a9 : A9) (a10 : A10), i < m → I i a1 a2 a3 a4 a5 a6 a7 a8 a9 a10 → gi10 f m a1 a2 a3 a4 a5 a6 a7 a8 a9 a10 from ⟨i + 1, key _ _ _ _ _ _ _ _ _ _ _ _ (Nat.lt_succ_self i) h⟩
  intro m
  induction m with
  | zero => intro i a1 a2 a3 a4 a5 a6 a7 a8 a9 a10 hi _; exact absurd hi (Nat.not_lt_zero i)
  | succ m ih =>
    intro i a1 a2 a3 a4 a5 a6 a7 a8 a9 a10 hi h
    exact hs i _ _ _ _ _ _ _ _ _ _ _ h (fun j b1 b2 b3 b4 b5 b6 b7 b8 b9 b10 hj hb => ih j _ _ _ _ _ _ _ _ _ _ (by omega) hb)
theorem gi11_ix {A1 A2 A3 A4 A5 A6 A7 A8 A9 A10 A11 : Type} {f : (A1 → A2 → A3 → A4 → A5 → A6 → A7 → A8 → A9 → A10 → A11 → Prop) → A1 → A2 → A3 → A4 → A5 → A6 → A7 → A8 → A9 → A10 → A11 → Prop} (I : Nat → A1 → A2 → A3 → A4 → A5 → A6 → A7 → A8 → A9 → A10 → A11 → Prop) (hs : ∀ (i : Nat) (X : A1 → A2 → A3 → A4 → A5 → A6 → A7 → A8 → A9 → A10 → A11 → Prop) (a1 : A1) (a2 : A2) (a3 : A3) (a4 : A4) (a5 : A5) (a6 : A6) (a7 : A7) (a8 : A8) (a9 : A9) (a10 : A10) (a11 : A11), I i a1 a2 a3 a4 a5 a6 a7 a8 a9 a10 a11 → (∀ (j : Nat) (b1 : A1) (b2 : A2) (b3 : A3) (b4 : A4) (b5 : A5) (b6 : A6) (b7 : A7) (b8 : A8) (b9 : A9) (b10 : A10) (b11 : A11), j < i → I j b1 b2 b3 b4 b5 b6 b7 b8 b9 b10 b11 → X b1 b2 b3 b4 b5 b6 b7 b8 b9 b10 b11) → f X a1 a2 a3 a4 a5 a6 a7 a8 a9 a10 a11) (i : Nat) {a1 : A1} {a2 : A2} {a3 : A3} {a4 : A4} {a5 : A5} {a6 : A6} {a7 : A7} {a8 : A8} {a9 : A9} {a10 : A10} {a11 : A11} (h : I i a1 a2 a3 a4 a5 a6 a7 a8 a9 a10 a11) : ∃ n, gi11 f n a1 a2 a3 a4 a5 a6 a7 a8 a9 a10 a11 := by
  suffices key : ∀ (m i : Nat) (a1 : A1) (a2 : A2) (a3 : A3) (a4 : A4) (a5 : A5) (a6 : A6) (a7 : A7) (a8 : A8) (a9 : A9) (a10 : A10) (a11 : A11), i < m → I i a1 a2 a3 a4 a5 a6 a7 a8 a9 a10 a11 → gi11 f m a1 a2 a3 a4 a5 a6 a7 a8 a9 a10 a11 from ⟨i + 1, key _ _ _ _ _ _ _ _ _ _ _ _ _ (Nat.lt_succ_self i) h⟩
  intro m
  induction m with
  | zero => intro i a1 a2 a3 a4 a5 a6 a7 a8 a9 a10 a11 hi _; exact absurd hi (Nat.not_lt_zero i)
  | succ m ih =>
    intro i a1 a2 a3 a4 a5 a6 a7 a8 a9 a10 a11 hi h
    exact hs i _ _ _ _ _ _ _ _ _ _ _ _ h (fun j b1 b2 b3 b4 b5 b6 b7 b8 b9 b10 b11 hj hb => ih j _ _ _ _ _ _ _ _ _ _ _ (by omega) hb)
