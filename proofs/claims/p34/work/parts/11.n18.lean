/-! core -/
theorem gbs_le (s : Nat) : ∀ k, gbs s k ≤ k := by
  intro k
  induction k with
  | zero => exact Nat.le_refl _
  | succ k ih =>
    show gbs s k + s / 2 ^ k % 2 ≤ k + 1
    have := gm_b01 s k
    omega
theorem gcnt_z {f : Nat → Bool} {N : Nat} : gcnt f N = 0 ↔ ∀ q, q < N → ¬ f q = true := by
  constructor
  · intro h q hq hf
    have := gcnt_lt f hq hf
    omega
  · intro h
    rw [gcnt_none (Nat.zero_le N) (fun q _ hq => h q hq)]
    rfl
def gcore (L : Nat → Bool) (N : Nat) : Nat → Nat
  | 0 => N
  | i + 1 => if gbs (N - i) 15 ≤ gbs (gcore L N i) 15 ∧ L (N - i) = true then N - i else gcore L N i
theorem gcore_le (L : Nat → Bool) (N : Nat) : ∀ i, gcore L N i ≤ N := by
  intro i
  induction i with
  | zero => exact Nat.le_refl _
  | succ i ih =>
    show (if gbs (N - i) 15 ≤ gbs (gcore L N i) 15 ∧ L (N - i) = true then N - i else gcore L N i) ≤ N
    split
    · omega
    · exact ih
theorem gcore_pos (L : Nat → Bool) {N : Nat} (hN : 0 < N) : ∀ i, i ≤ N → 0 < gcore L N i := by
  intro i
  induction i with
  | zero => intro _; exact hN
  | succ i ih =>
    intro hi
    show 0 < (if gbs (N - i) 15 ≤ gbs (gcore L N i) 15 ∧ L (N - i) = true then N - i else gcore L N i)
    split
    · omega
    · exact ih (by omega)
/-- no point has all of these -/
def gLN (C : Nat → Nat → Int32) (n mo s : Nat) : Bool := decide (gcnt (fun q => gbox mo q && decide (gmask C n q &&& s = s)) 4096 = 0)
theorem gLN_iff {C : Nat → Nat → Int32} {n mo s : Nat} : gLN C n mo s = true ↔ ∀ q, q < 4096 → gbox mo q = true → ¬ (gmask C n q &&& s = s) := by
  unfold gLN
  rw [decide_eq_true_eq, gcnt_z]
  constructor
  · intro z q hq hb hz
    refine z q hq ?_
    show (gbox mo q && decide _) = true
    rw [hb, Bool.true_and, decide_eq_true_eq]
    exact hz
  · intro z q hq hz
    replace hz : (gbox mo q && decide _) = true := hz
    rw [Bool.and_eq_true, decide_eq_true_eq] at hz
    exact z q hq hz.1 hz.2
theorem gbox_0 (mo : Nat) : gbox mo 0 = true := by
  rw [gbox_iff]
  intro i hi
  unfold gv
  rw [Nat.zero_div]
  exact Nat.zero_le _
theorem gLN_0 {C : Nat → Nat → Int32} {n mo : Nat} : ¬ gLN C n mo 0 = true := by
  rw [gLN_iff]
  intro h
  exact h 0 (by decide) (gbox_0 mo) (Nat.and_zero _)
theorem s_leaves {ha : Nat → Int32} {s N : Nat} {Q : Int32 → Prop} (hN : N < 256) (hs : s ≤ N) (h1 : (∀ m, m ≤ N → ¬ ha m = 0 → ¬ (m &&& s = s)) → Q 1) (h0 : ¬ (∀ m, m ≤ N → ¬ ha m = 0 → ¬ (m &&& s = s)) → Q 0) : p_X5_leavesNoPoint ha (nI s) (nI N) Q := by
  unfold p_X5_leavesNoPoint
  refine gi1_inv (N + 1 - s) (fun i a => a = nI (s + i) ∧ ∀ m, m < s + i → m ≤ N → ¬ ha m = 0 → ¬ (m &&& s = s)) ?_ ?_ ⟨rfl, fun m hm _ _ e => ?_⟩
  · rintro i hi X a ⟨rfl, hp⟩ hX
    unfold p_X5_leavesNoPoint_2 p_X5_leavesNoPoint_25
    have en : nI (s + i) + (1 : Int32) = nI (s + (i + 1)) := nI_add (s + i) 1
    refine ⟨fun g => ?_, fun _ => ⟨vp_in_nI (by omega) (by decide), ?_⟩⟩
    · rw [nI_ltI (by omega) (by omega)] at g; omega
    · have l1 : (s + i) &&& s ≤ s + i := Nat.and_le_left
      rw [nI_clamp (by omega), gm_andN, nI_eq (by omega) (by omega), en]
      refine ⟨fun g => hX _ ⟨rfl, fun m hm hmN hz => ?_⟩, fun g => ⟨fun g2 => h0 (fun z => z _ (by omega) g g2), fun g2 => hX _ ⟨rfl, fun m hm hmN hz => ?_⟩⟩⟩
      · by_cases e : m = s + i
        · subst e; exact absurd g hz
        · exact hp m (by omega) hmN hz
      · by_cases e : m = s + i
        · subst e; exact g2
        · exact hp m (by omega) hmN hz
  · rintro X a ⟨rfl, hp⟩
    unfold p_X5_leavesNoPoint_2
    have e : s + (N + 1 - s) = N + 1 := by omega
    rw [e] at hp ⊢
    exact ⟨fun _ => h1 (fun m hm => hp m (by omega) hm), fun g => absurd (by rw [nI_ltI (by omega) (by omega)]; omega) g⟩
  · have l1 : m &&& s ≤ m := Nat.and_le_left
    omega
theorem s_fewest {ha : Nat → Int32} {L : Nat → Bool} {N : Nat} {Q : Int32 → Prop} (hN : N < 256) (hL : ∀ s, s ≤ N → (L s = true ↔ ∀ m, m ≤ N → ¬ ha m = 0 → ¬ (m &&& s = s))) (hQ : Q (nI (gcore L N N))) : p_X5_fewestWithoutPoint ha (nI N) Q := by
  unfold p_X5_fewestWithoutPoint
  refine gi2_inv N (fun i a b => b = nI (N - i) ∧ a = nI (gcore L N i)) ?_ ?_ ⟨rfl, rfl⟩
  · rintro i hi X a b ⟨rfl, rfl⟩ hX
    have gl := gcore_le L N i
    have b1 := gbs_le (N - i) 15
    have b2 := gbs_le (gcore L N i) 15
    unfold p_X5_fewestWithoutPoint_4 p_X5_fewestWithoutPoint_30
    have en : nI (N - i) + (-1 : Int32) = nI (N - (i + 1)) := by
      have : N - i = (N - (i + 1)) + 1 := by omega
      rw [this]
      exact pk_m1 _
    rw [en]
    refine ⟨fun g => absurd g (nI_nle (by omega) (by omega)), fun _ => s_bitCount (by omega) (s_bitCount (by omega) ?_)⟩
    rw [nI_ltI (by omega) (by omega)]
    refine ⟨fun g => hX _ _ ⟨rfl, congrArg nI (if_neg (by omega)).symm⟩, fun g => s_leaves hN (by omega) (fun hl => ⟨g10, fun _ => hX _ _ ⟨rfl, congrArg nI (if_pos ⟨by omega, (hL _ (by omega)).mpr hl⟩).symm⟩⟩) (fun hl => ⟨fun _ => hX _ _ ⟨rfl, congrArg nI (if_neg (fun z => hl ((hL _ (by omega)).mp z.2))).symm⟩, g00⟩)⟩
  · rintro X a b ⟨rfl, rfl⟩
    unfold p_X5_fewestWithoutPoint_4
    rw [Nat.sub_self]
    exact ⟨fun _ => hQ, fun g => absurd (by decide) g⟩
theorem gm_n2 : ∀ n, n ≤ 8 → 2 ^ n - 1 < 256 := by decide
theorem ghat_m1 {C : Nat → Nat → Int32} {n mo p : Nat} (hn : n ≤ 8) : ghat C n mo p = -1 ↔ ¬ gbox mo p = true := by
  unfold ghat
  by_cases hb : gbox mo p = true
  · rw [if_pos hb]
    have h1 := gmask_lt C n p
    have h2 := gm_p2 n hn
    exact ⟨fun z => absurd z.symm (gm_ne1 _ (by omega)), fun z => absurd hb z⟩
  · rw [if_neg hb]
    exact ⟨fun _ => hb, fun _ => rfl⟩
theorem s_X5_leastCore {seen changes : Int32} {h cells held : Nat → Int32} {n mo : Nat} {Q : Int32 → Int32 → (Nat → Int32) → (Nat → Int32) → Prop} (hn : n ≤ 8) (hm : mo ≤ 7) (hv : seen = changes → gVh (fun k j => cells (6 * k + j)) n mo h)
    (hQ0 : ∀ h' t', gVh (fun k j => cells (6 * k + j)) n mo h' → (∃ q, q < 4096 ∧ gfull (fun k j => cells (6 * k + j)) n mo q = true) → Q 0 changes h' t')
    (hQ1 : ∀ h' t', gVh (fun k j => cells (6 * k + j)) n mo h' → ¬ (∃ q, q < 4096 ∧ gfull (fun k j => cells (6 * k + j)) n mo q = true) → Q (nI (gcore (gLN (fun k j => cells (6 * k + j)) n mo) (2 ^ n - 1) (2 ^ n - 1))) changes h' t') : p_X5_leastCore seen h held (nI n) (nI mo) changes cells Q := by
  unfold p_X5_leastCore
  have hN := gm_n2 n hn
  have hp := gm_p2 n hn
  refine s_X5_lookAt hn hm hv (fun h' hh => s_X9_all hn ?_)
  refine gi2_inv (2 ^ n - 1 + 1) (fun i a b => a = nI i ∧ ∀ m, m < i → b m = 0) ?_ ?_ ⟨rfl, fun m hm => absurd hm (Nat.not_lt_zero m)⟩
  · rintro i hi X a b ⟨rfl, hb⟩ hX
    unfold p_X5_leastCore_12
    refine ⟨fun g => ?_, fun _ => ⟨vp_in_nI (by omega) (by decide), hX _ _ ⟨by rw [gl_1, nI_add], fun m hm => ?_⟩⟩⟩
    · rw [nI_ltI (by omega) (by omega)] at g; omega
    · rw [nI_clamp (by omega)]
      by_cases e : m = i
      · subst e; rw [pk_us]; rfl
      · rw [pk_un e]; exact hb m (by omega)
  · rintro X a b ⟨rfl, hb⟩
    unfold p_X5_leastCore_12
    refine ⟨fun _ => ?_, fun g => absurd (by rw [nI_ltI (by omega) (by omega)]; omega) g⟩
    refine gi2_inv 4096 (fun q a e => a = nI q ∧ ∀ m, m ≤ 2 ^ n - 1 → (¬ e m = 0 ↔ ∃ p, p < q ∧ gbox mo p = true ∧ gmask (fun k j => cells (6 * k + j)) n p = m)) ?_ ?_ ⟨rfl, fun m hm => ⟨fun z => absurd (hb m (by omega)) z, fun ⟨p, z, _⟩ => absurd z (Nat.not_lt_zero p)⟩⟩
    · rintro q hq Y a e ⟨rfl, he⟩ hY
      unfold p_X5_leastCore_32 p_X5_leastCore_61
      have en : nI q + (1 : Int32) = nI (q + 1) := nI_add q 1
      have hlt := gmask_lt (fun k j => cells (6 * k + j)) n q
      refine ⟨fun g => ?_, fun _ => ⟨vp_in_nI hq (by decide), ?_⟩⟩
      · rw [gl_4095, nI_ltI (by decide) (by omega)] at g; omega
      · rw [nI_clamp (by omega), hh q hq, ghat_m1 hn, en]
        refine ⟨fun g => hY _ _ ⟨rfl, fun m hm => ?_⟩, fun g => ⟨vp_in_nI hq (by decide), ?_⟩⟩
        · rw [he m hm]
          constructor
          · rintro ⟨p, p1, p2, p3⟩; exact ⟨p, by omega, p2, p3⟩
          · rintro ⟨p, p1, p2, p3⟩
            refine ⟨p, ?_, p2, p3⟩
            by_cases ep : p = q
            · subst ep; exact absurd p2 g
            · omega
        · have gb : gbox mo q = true := Decidable.byContradiction g
          have e1 : ghat (fun k j => cells (6 * k + j)) n mo q = nI (gmask (fun k j => cells (6 * k + j)) n q) := if_pos gb
          rw [e1]
          refine ⟨vp_in_nI (by omega) (by decide), hY _ _ ⟨rfl, fun m hm => ?_⟩⟩
          rw [nI_clamp (by omega)]
          by_cases em : m = gmask (fun k j => cells (6 * k + j)) n q
          · subst em
            rw [pk_us]
            exact ⟨fun _ => ⟨q, by omega, gb, rfl⟩, fun _ => by decide⟩
          · rw [pk_un em, he m hm]
            constructor
            · rintro ⟨p, p1, p2, p3⟩; exact ⟨p, by omega, p2, p3⟩
            · rintro ⟨p, p1, p2, p3⟩
              refine ⟨p, ?_, p2, p3⟩
              by_cases ep : p = q
              · subst ep; exact absurd p3.symm em
              · omega
    · rintro Y a e ⟨rfl, he⟩
      unfold p_X5_leastCore_32
      refine ⟨fun _ => ⟨vp_in_nI (by omega) (by decide), ?_⟩, fun g => absurd (by decide) g⟩
      rw [nI_clamp (by omega)]
      have hfull : ∀ p, gfull (fun k j => cells (6 * k + j)) n mo p = true ↔ gbox mo p = true ∧ gmask (fun k j => cells (6 * k + j)) n p = 2 ^ n - 1 := by
        intro p
        unfold gfull
        rw [Bool.and_eq_true, decide_eq_true_eq]
      refine ⟨fun g => s_fewest (L := gLN (fun k j => cells (6 * k + j)) n mo) hN (fun s hs => ?_) (hQ1 _ _ hh ?_), fun g => hQ0 _ _ hh ?_⟩
      · rw [gLN_iff]
        constructor
        · intro z m hm hz
          obtain ⟨p, p1, p2, p3⟩ := (he m hm).mp hz
          rw [← p3]
          exact z p p1 p2
        · intro z p p1 p2
          have hlt := gmask_lt (fun k j => cells (6 * k + j)) n p
          exact z _ (by omega) ((he _ (by omega)).mpr ⟨p, p1, p2, rfl⟩)
      · rintro ⟨p, p1, p2⟩
        rw [hfull] at p2
        exact (he _ (Nat.le_refl _)).mpr ⟨p, p1, p2.1, p2.2⟩ g
      · obtain ⟨p, p1, p2, p3⟩ := (he _ (Nat.le_refl _)).mp g
        exact ⟨p, p1, (hfull p).mpr ⟨p2, p3⟩⟩
theorem gLN_fn {n mo : Nat} {cells now : Nat → Int32} {size most draw : Int32} (hS : gSnap n mo cells size most draw now) : gLN (fun k j => cells (6 * k + j)) n mo = gLN (fun k j => now (3 + 6 * k + j)) n mo := by
  funext s
  unfold gLN
  rw [gmask_fn hS]
