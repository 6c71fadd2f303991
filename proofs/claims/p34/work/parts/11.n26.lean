/-! the tape read: letters, numbers -/
def gnx (T : Nat → Nat) : Nat → Nat → Nat
  | 0, p => p
  | f + 1, p => if T p = 32 then gnx T f (p + 1) else p
def gN (T : Nat → Nat) (t p : Nat) : Nat := gnx T (t - p) p
def gch (T : Nat → Nat) (t p : Nat) : Nat := if gN T t p < t then T (gN T t p) else 0
def gTx (T : Nat → Nat) (t : Nat) (letters : Nat → Int32) : Prop := t ≤ 130 ∧ ∀ i, i < t → letters i = nI (T i) ∧ 32 ≤ T i ∧ T i ≤ 126
theorem gnx_bd (T : Nat → Nat) : ∀ f p, p ≤ gnx T f p ∧ gnx T f p ≤ p + f := by
  intro f
  induction f with
  | zero => intro p; exact ⟨Nat.le_refl _, Nat.le_refl _⟩
  | succ f ih =>
    intro p
    show p ≤ (if T p = 32 then gnx T f (p + 1) else p) ∧ (if T p = 32 then gnx T f (p + 1) else p) ≤ p + (f + 1)
    split
    · have := ih (p + 1); omega
    · omega
theorem gN_bd {T : Nat → Nat} {t p : Nat} (h : p ≤ t) : p ≤ gN T t p ∧ gN T t p ≤ t := by
  have := gnx_bd T (t - p) p
  unfold gN
  omega
theorem gnx_nb (T : Nat → Nat) : ∀ f p, gnx T f p < p + f → ¬ T (gnx T f p) = 32 := by
  intro f
  induction f with
  | zero => intro p h; exact absurd h (Nat.lt_irrefl _)
  | succ f ih =>
    intro p
    show (if T p = 32 then gnx T f (p + 1) else p) < p + (f + 1) → ¬ T (if T p = 32 then gnx T f (p + 1) else p) = 32
    by_cases h : T p = 32
    · rw [if_pos h]
      intro h2
      exact ih (p + 1) (by omega)
    · rw [if_neg h]
      exact fun _ => h
theorem gN_nb {T : Nat → Nat} {t p : Nat} (h : p ≤ t) (h2 : gN T t p < t) : ¬ T (gN T t p) = 32 := by
  unfold gN at *
  exact gnx_nb T _ _ (by omega)
theorem gN_self {T : Nat → Nat} {t p : Nat} (h : ¬ p < t ∨ ¬ T p = 32) : gN T t p = p := by
  unfold gN
  rcases Nat.eq_zero_or_pos (t - p) with e | e
  · rw [e]; rfl
  · have : t - p = (t - p - 1) + 1 := by omega
    rw [this]
    exact if_neg (h.elim (fun z => by omega) (fun z => z))
theorem gN_idem {T : Nat → Nat} {t p : Nat} (h : p ≤ t) : gN T t (gN T t p) = gN T t p := by
  apply gN_self
  by_cases h2 : gN T t p < t
  · exact Or.inr (gN_nb h h2)
  · exact Or.inl h2
theorem gch_N {T : Nat → Nat} {t p : Nat} (h : p ≤ t) : gch T t (gN T t p) = gch T t p := by
  unfold gch
  rw [gN_idem h]
theorem gch_0 {T : Nat → Nat} {t p : Nat} {letters : Nat → Int32} (hT : gTx T t letters) : gch T t p = 0 ↔ ¬ gN T t p < t := by
  unfold gch
  by_cases h : gN T t p < t
  · rw [if_pos h]
    have := (hT.2 _ h).2
    exact ⟨fun z => by omega, fun z => absurd h z⟩
  · rw [if_neg h]
    exact ⟨fun _ => h, fun _ => rfl⟩
theorem gch_lt {T : Nat → Nat} {t p : Nat} {letters : Nat → Int32} (hT : gTx T t letters) : gch T t p ≤ 126 := by
  unfold gch
  split
  · rename_i h
    exact (hT.2 _ h).2.2
  · exact Nat.zero_le _
theorem s_X8_next {T : Nat → Nat} {t p : Nat} {letters : Nat → Int32} {Q : Int32 → Int32 → Prop} (hT : gTx T t letters) (hp : p ≤ t) (hQ : Q (if gch T t p = 0 then -1 else nI (gch T t p)) (nI (gN T t p))) : p_X8_next (nI t) (nI p) letters Q := by
  have ht := hT.1
  have fin : ∀ q, gN T t p = q → q ≤ t → p_X8_next_38 (nI t) (nI q) letters Q := by
    intro q hq hqt
    unfold p_X8_next_38
    rw [nI_leI (by omega) (by omega)]
    refine ⟨fun g => ?_, fun g => ⟨vp_in_nI (by omega) (by decide), ?_⟩⟩
    · rw [if_pos ((gch_0 hT).mpr (by omega)), hq] at hQ
      exact hQ
    · have h1 := hT.2 q (by omega)
      rw [if_neg (fun z => (gch_0 hT).mp z (by omega)), hq] at hQ
      rw [nI_clamp (by omega), h1.1]
      have : gch T t p = T q := by unfold gch; rw [hq, if_pos (by omega)]
      rw [this] at hQ
      exact hQ
  unfold p_X8_next
  refine gi1_inv (t - p) (fun i a => a = nI (p + i) ∧ gnx T (t - p - i) (p + i) = gN T t p) ?_ ?_ ⟨rfl, rfl⟩
  · rintro i hi X a ⟨rfl, ha⟩ hX
    have e : t - p - i = (t - p - (i + 1)) + 1 := by omega
    rw [e] at ha
    replace ha : (if T (p + i) = 32 then gnx T (t - p - (i + 1)) (p + i + 1) else p + i) = gN T t p := ha
    have h1 := hT.2 (p + i) (by omega)
    have en : nI (p + i) + (1 : Int32) = nI (p + (i + 1)) := nI_add (p + i) 1
    unfold p_X8_next_0
    rw [nI_leI (by omega) (by omega), en]
    refine ⟨fun g => by omega, fun _ => ⟨vp_in_nI (by omega) (by decide), ?_⟩⟩
    rw [nI_clamp (by omega), h1.1, show (32 : Int32) = nI 32 from rfl, nI_eq (by omega) (by decide)]
    refine ⟨fun g => hX _ ⟨rfl, by rw [if_pos g] at ha; exact ha⟩, fun g => fin _ (by rw [if_neg g] at ha; exact ha.symm) (by omega)⟩
  · rintro X a ⟨rfl, ha⟩
    have e : t - p - (t - p) = 0 := by omega
    have e2 : p + (t - p) = t := by omega
    rw [e, e2] at ha
    replace ha : t = gN T t p := ha
    rw [e2]
    unfold p_X8_next_0
    exact ⟨fun _ => fin t ha.symm (Nat.le_refl _), fun g => absurd (by rw [nI_leI (by omega) (by omega)]; exact Nat.le_refl _) g⟩
/-- is a letter of these, asked by the class (-1: the end) -/
theorem s_oC_in {c a b : Nat} {Q : Int32 → Prop} (h0 : 0 < a) (h : a ≤ c ∧ c ≤ b) (hb : b < 1000) (hQ : Q 0) : p_X10_outside (if c = 0 then -1 else nI c) (nI a) (nI b) Q := by
  rw [if_neg (by omega)]
  exact s_out_in (by rw [nI_toInt (by omega), nI_toInt (by omega), nI_toInt (by omega)]; omega) hQ
theorem s_oC_out {c a b : Nat} {Q : Int32 → Prop} (h0 : 0 < a) (h : ¬ (a ≤ c ∧ c ≤ b)) (hc : c < 1000) (hb : b < 1000) (ha : a < 1000) (hQ : Q 1) : p_X10_outside (if c = 0 then -1 else nI c) (nI a) (nI b) Q := by
  by_cases e : c = 0
  · rw [if_pos e]
    exact s_out_out (by rw [nI_toInt (by omega), nI_toInt (by omega), show (-1 : Int32).toInt = -1 from rfl]; omega) hQ
  · rw [if_neg e]
    exact s_out_out (by rw [nI_toInt (by omega), nI_toInt (by omega), nI_toInt (by omega)]; omega) hQ
abbrev gdg (c : Nat) : Prop := 48 ≤ c ∧ c ≤ 57
def gnumV (T : Nat → Nat) (t p : Nat) : Option Nat := if gdg (gch T t p) then some (if gN T t p + 1 < t ∧ gdg (T (gN T t p + 1)) then 10 * (gch T t p - 48) + (T (gN T t p + 1) - 48) else gch T t p - 48) else none
def gnumP (T : Nat → Nat) (t p : Nat) : Nat := if gdg (gch T t p) then (if gN T t p + 1 < t ∧ gdg (T (gN T t p + 1)) then gN T t p + 2 else gN T t p + 1) else gN T t p
def gnv : Option Nat → Int32
  | none => -1
  | some v => nI v
theorem gnumP_bd {T : Nat → Nat} {t p : Nat} {letters : Nat → Int32} (hT : gTx T t letters) (h : p ≤ t) : p ≤ gnumP T t p ∧ gnumP T t p ≤ t ∧ (∀ v, gnumV T t p = some v → p + 1 ≤ gnumP T t p ∧ v ≤ 99) := by
  have hb := gN_bd (T := T) h
  unfold gnumP gnumV
  by_cases hd : gdg (gch T t p)
  · rw [if_pos hd, if_pos hd]
    have hc : gN T t p < t := by
      by_cases z : gN T t p < t
      · exact z
      · have := (gch_0 hT).mpr z
        rw [this] at hd
        exact absurd hd (by decide)
    obtain ⟨d1, d2⟩ := hd
    by_cases h2 : gN T t p + 1 < t ∧ gdg (T (gN T t p + 1))
    · rw [if_pos h2, if_pos h2]
      obtain ⟨k1, k2, k3⟩ := h2
      refine ⟨by omega, by omega, fun v hv => ?_⟩
      have := Option.some.inj hv
      omega
    · rw [if_neg h2, if_neg h2]
      refine ⟨by omega, by omega, fun v hv => ?_⟩
      have := Option.some.inj hv
      omega
  · rw [if_neg hd, if_neg hd]
    exact ⟨hb.1, hb.2, fun v hv => by cases hv⟩
theorem s_X8_readNumber {T : Nat → Nat} {t p : Nat} {letters : Nat → Int32} {Q : Int32 → Int32 → Prop} (hT : gTx T t letters) (hp : p ≤ t) (hQ : Q (gnv (gnumV T t p)) (nI (gnumP T t p))) : p_X8_readNumber (nI t) (nI p) letters Q := by
  have ht := hT.1
  have hb := gN_bd (T := T) hp
  have hcl := gch_lt (p := p) hT
  unfold gnumV gnumP at hQ
  unfold p_X8_readNumber
  refine s_X8_next hT hp ?_
  by_cases hd : gdg (gch T t p)
  · rw [if_pos hd, if_pos hd] at hQ
    have hc : gN T t p < t := by
      by_cases z : gN T t p < t
      · exact z
      · have := (gch_0 hT).mpr z
        rw [this] at hd
        exact absurd hd (by decide)
    have h1 := hT.2 _ hc
    have hce : gch T t p = T (gN T t p) := if_pos hc
    obtain ⟨d1, d2⟩ := hd
    refine s_oC_in (a := 48) (b := 57) (by decide) ⟨d1, d2⟩ (by decide) ⟨fun _ => ⟨3, ?_⟩, g00⟩
    rw [hce] at hQ d1 d2
    revert hQ h1 d1 d2 hc hb
    generalize gN T t p = q
    intro hQ hb hc h1 d1 d2
    show p_X8_readNumber_20 (nI t) letters Q (gi3 (p_X8_readNumber_20 (nI t) letters Q) 2) (0 : Int32) (0 : Int32) (nI q)
    unfold p_X8_readNumber_20
    rw [nI_leI (by omega) (by omega), nI_clamp (by omega), h1.1]
    have e1 : ((0 : Int32) * (10 : Int32) + nI (T q)) - (48 : Int32) = nI (T q - 48) := by
      rw [show (0 : Int32) * (10 : Int32) = nI 0 from rfl, nI_add, show (48 : Int32) = nI 48 from rfl, pk_sub (by omega), Nat.zero_add]
    refine ⟨fun g => absurd g (by decide), fun _ => ⟨fun g => by omega, fun _ => ⟨vp_in_nI (by omega) (by decide), s_out_in (by rw [nI_toInt (by omega)]; exact ⟨by show (48 : Int) ≤ _; omega, by show _ ≤ (57 : Int); omega⟩) ⟨fun _ => ⟨vp_in_nI (by omega) (by decide), fun z hz => ?_⟩, g00⟩⟩⟩⟩
    rw [e1] at hz
    subst hz
    have en : nI q + (1 : Int32) = nI (q + 1) := nI_add q 1
    rw [en]
    show p_X8_readNumber_20 (nI t) letters Q (gi3 (p_X8_readNumber_20 (nI t) letters Q) 1) (nI (T q - 48)) ((0 : Int32) + (1 : Int32)) (nI (q + 1))
    unfold p_X8_readNumber_20
    rw [nI_leI (by omega) (by omega)]
    refine ⟨fun g => absurd g (by decide), fun _ => ⟨fun g => ?_, fun g => ⟨vp_in_nI (by omega) (by decide), ?_⟩⟩⟩
    · rw [if_neg (by omega), if_neg (by omega)] at hQ
      exact hQ
    · have h2 := hT.2 (q + 1) (by omega)
      rw [nI_clamp (by omega), h2.1]
      by_cases h3 : gdg (T (q + 1))
      · rw [if_pos ⟨by omega, h3⟩, if_pos ⟨by omega, h3⟩] at hQ
        obtain ⟨k1, k2⟩ := h3
        refine s_out_in (by rw [nI_toInt (by omega)]; exact ⟨by show (48 : Int) ≤ _; omega, by show _ ≤ (57 : Int); omega⟩) ⟨fun _ => ⟨vp_in_nI (by omega) (by decide), fun z hz => ?_⟩, g00⟩
        have e2 : (nI (T q - 48) * (10 : Int32) + nI (T (q + 1))) - (48 : Int32) = nI (10 * (T q - 48) + (T (q + 1) - 48)) := by
          rw [show (10 : Int32) = nI 10 from rfl, pk_mul, nI_add, show (48 : Int32) = nI 48 from rfl, pk_sub (by omega)]
          congr 1
          omega
        rw [e2] at hz
        subst hz
        have en2 : nI (q + 1) + (1 : Int32) = nI (q + 2) := nI_add (q + 1) 1
        rw [en2]
        show p_X8_readNumber_20 (nI t) letters Q (gi3 (p_X8_readNumber_20 (nI t) letters Q) 0) _ ((0 : Int32) + (1 : Int32) + (1 : Int32)) (nI (q + 2))
        unfold p_X8_readNumber_20
        exact ⟨fun _ => hQ, fun g => absurd (by decide) g⟩
      · rw [if_neg (fun z => h3 z.2), if_neg (fun z => h3 z.2)] at hQ
        refine s_out_out (by rw [nI_toInt (by omega)]; intro z; exact h3 ⟨by have : (48 : Int) ≤ _ := z.1; omega, by have : _ ≤ (57 : Int) := z.2; omega⟩) ⟨g10, fun _ => hQ⟩
  · rw [if_neg hd, if_neg hd] at hQ
    exact s_oC_out (a := 48) (b := 57) (by decide) hd (by omega) (by decide) (by decide) ⟨g10, fun _ => hQ⟩
