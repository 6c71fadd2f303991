/-! bits -/
theorem gm_orN (a b : Nat) : nI a ||| nI b = nI (a ||| b) := by
  apply Int32.toBitVec_inj.mp
  show BitVec.ofNat 32 a ||| BitVec.ofNat 32 b = BitVec.ofNat 32 (a ||| b)
  exact BitVec.ofNat_or.symm
theorem gm_andN (a b : Nat) : nI a &&& nI b = nI (a &&& b) := by
  apply Int32.toBitVec_inj.mp
  show BitVec.ofNat 32 a &&& BitVec.ofNat 32 b = BitVec.ofNat 32 (a &&& b)
  exact BitVec.ofNat_and.symm
theorem gm_sl : ∀ k, k < 32 → ((nI k &&& 31).toBitVec.smod 32).toNat = k := by decide +kernel
theorem gm_1sl : ∀ k, k < 31 → (1 : Int32) <<< (nI k &&& 31) = nI (2 ^ k) := by decide +kernel
theorem gm_bit {s k : Nat} (hs : s < 2 ^ 31) (hk : k < 32) : (nI s >>> (nI k &&& 31)) &&& (1 : Int32) = nI (s / 2 ^ k % 2) := by
  rw [pk_shrN hs _ k (gm_sl k hk), pk_andN (Nat.lt_of_le_of_lt (Nat.div_le_self _ _) (by omega)) 1 (by decide)]
theorem gm_b01 (s k : Nat) : s / 2 ^ k % 2 = 0 ∨ s / 2 ^ k % 2 = 1 := by omega
theorem gm_bhi {s k : Nat} (hs : s < 32768) (h : s / 2 ^ k % 2 = 1) : k < 15 := by
  rcases Nat.lt_or_ge k 15 with z | z
  · exact z
  · have h1 : 2 ^ 15 ≤ 2 ^ k := Nat.pow_le_pow_right (by decide) z
    have h2 : s / 2 ^ k = 0 := Nat.div_eq_of_lt (by omega)
    omega
theorem gm_bz : ∀ n s, s < 2 ^ n → (∀ j, j < n → s / 2 ^ j % 2 = 0) → s = 0 := by
  intro n
  induction n with
  | zero => intro s hs _; rw [Nat.pow_zero] at hs; omega
  | succ n ih =>
    intro s hs h
    have h0 := h 0 (by omega)
    rw [Nat.pow_zero, Nat.div_one] at h0
    rw [Nat.pow_succ] at hs
    have h1 := ih (s / 2) (by omega) (fun j hj => by
      have := h (j + 1) (by omega)
      rw [Nat.pow_succ, Nat.mul_comm, ← Nat.div_div_eq_div_mul] at this
      exact this)
    omega
theorem s_low {s : Nat} {Q : Int32 → Prop} (hs : s < 32768) (h0 : ¬ s = 0) (hQ : ∀ k, k < 15 → s / 2 ^ k % 2 = 1 → (∀ j, j < k → s / 2 ^ j % 2 = 0) → Q (nI k)) : p_X2_lowestBit (nI s) Q := by
  unfold p_X2_lowestBit
  refine gi1_inv 31 (fun i a => a = nI i ∧ ∀ j, j < i → s / 2 ^ j % 2 = 0) ?_ ?_ ⟨rfl, fun j hj => absurd hj (Nat.not_lt_zero j)⟩
  · rintro i hi X a ⟨rfl, ha⟩ hX
    unfold p_X2_lowestBit_2
    refine ⟨fun g => ?_, fun _ => ?_⟩
    · rw [show (31 : Int32) = nI 31 from rfl, nI_leI (by decide) (by omega)] at g; omega
    · rw [gm_bit (by omega) (by omega)]
      rcases gm_b01 s i with e | e
      · rw [e]
        refine ⟨fun _ => hX _ ⟨by rw [gl_1, nI_add], fun j hj => ?_⟩, fun g => absurd rfl g⟩
        by_cases e2 : j = i
        · subst e2; exact e
        · exact ha j (by omega)
      · rw [e]
        exact ⟨fun g => absurd g (by decide), fun _ => hQ i (gm_bhi hs e) e ha⟩
  · rintro X a ⟨rfl, ha⟩
    exact absurd (gm_bz 15 s hs (fun j hj => ha j (by omega))) h0
theorem s_high {s : Nat} {Q : Int32 → Prop} (hs : s < 32768) (h0 : ¬ s = 0) (hQ : ∀ k, k < 15 → s / 2 ^ k % 2 = 1 → (∀ j, k < j → s / 2 ^ j % 2 = 0) → Q (nI k)) : p_X2_highestBit (nI s) Q := by
  unfold p_X2_highestBit
  refine gi1_inv 31 (fun i a => a = nI (31 - i) ∧ ∀ j, 31 - i < j → s / 2 ^ j % 2 = 0) ?_ ?_ ⟨rfl, fun j hj => ?_⟩
  · rintro i hi X a ⟨rfl, ha⟩ hX
    unfold p_X2_highestBit_3
    refine ⟨fun g => absurd g (nI_nle (by omega) (by omega)), fun _ => ?_⟩
    rw [gm_bit (by omega) (by omega)]
    rcases gm_b01 s (31 - i) with e | e
    · rw [e]
      refine ⟨fun _ => hX _ ⟨?_, fun j hj => ?_⟩, fun g => absurd rfl g⟩
      · have : 31 - i = (31 - (i + 1)) + 1 := by omega
        rw [this]
        exact pk_m1 _
      · by_cases e2 : j = 31 - i
        · subst e2; exact e
        · exact ha j (by omega)
    · rw [e]
      exact ⟨fun g => absurd g (by decide), fun _ => hQ _ (gm_bhi hs e) e ha⟩
  · rintro X a ⟨rfl, ha⟩
    unfold p_X2_highestBit_3
    refine ⟨fun _ => ?_, fun g => absurd (by decide) g⟩
    rcases gm_b01 s 0 with e | e
    · exact absurd (gm_bz 15 s hs (fun j hj => by
        by_cases e2 : j = 0
        · subst e2; exact e
        · exact ha j (by omega))) h0
    · exact hQ 0 (by decide) e ha
  · rcases gm_b01 s j with e | e
    · exact e
    · have := gm_bhi hs e; omega
def gbs (s : Nat) : Nat → Nat
  | 0 => 0
  | k + 1 => gbs s k + s / 2 ^ k % 2
def gpc1 (s : Nat) : Nat := s - (s / 2 &&& 1431655765)
def gpc2 (s : Nat) : Nat := (s &&& 858993459) + (s / 4 &&& 858993459)
def gpc3 (s : Nat) : Nat := s + s / 16 &&& 252645135
def gpc4 (s : Nat) : Nat := s + s / 256
def gpc5 (s : Nat) : Nat := s + s / 65536
def gb15 (s : Nat) : Nat := s % 2 + s / 2 % 2 + s / 4 % 2 + s / 8 % 2 + s / 16 % 2 + s / 32 % 2 + s / 64 % 2 + s / 128 % 2 + s / 256 % 2 + s / 512 % 2 + s / 1024 % 2 + s / 2048 % 2 + s / 4096 % 2 + s / 8192 % 2 + s / 16384 % 2
theorem gpc_ok : ∀ h, h < 128 → ∀ l, l < 256 → (gpc5 (gpc4 (gpc3 (gpc2 (gpc1 (256 * h + l))))) &&& 63) = gb15 (256 * h + l) := by decide +kernel
theorem gb15_ok (s : Nat) : gbs s 15 = gb15 s := by
  show 0 + s / 1 % 2 + s / 2 % 2 + s / 4 % 2 + s / 8 % 2 + s / 16 % 2 + s / 32 % 2 + s / 64 % 2 + s / 128 % 2 + s / 256 % 2 + s / 512 % 2 + s / 1024 % 2 + s / 2048 % 2 + s / 4096 % 2 + s / 8192 % 2 + s / 16384 % 2 = _
  rw [Nat.div_one, Nat.zero_add]
  rfl
theorem s_bitCount {s : Nat} {Q : Int32 → Prop} (hs : s < 32768) (hQ : Q (nI (gbs s 15))) : p_J6_bitCount_0f7a4 (nI s) Q := by
  unfold p_J6_bitCount_0f7a4
  have b1 : gpc1 s ≤ s := Nat.sub_le _ _
  have b2 : gpc2 (gpc1 s) ≤ gpc1 s + gpc1 s / 4 := Nat.add_le_add Nat.and_le_left Nat.and_le_left
  have b3 : gpc3 (gpc2 (gpc1 s)) ≤ gpc2 (gpc1 s) + gpc2 (gpc1 s) / 16 := Nat.and_le_left
  have b4 : gpc4 (gpc3 (gpc2 (gpc1 s))) = gpc3 (gpc2 (gpc1 s)) + gpc3 (gpc2 (gpc1 s)) / 256 := rfl
  intro z1 h1
  rw [pk_ushrN (by omega) 1 1 (by decide), show (1431655765 : Int32) = nI 1431655765 from rfl, gm_andN, pk_sub (Nat.le_trans Nat.and_le_left (Nat.div_le_self _ _))] at h1
  replace h1 : z1 = nI (gpc1 s) := h1
  subst h1
  intro z2 h2
  rw [pk_ushrN (by omega) 2 2 (by decide), show (858993459 : Int32) = nI 858993459 from rfl, gm_andN, gm_andN, nI_add] at h2
  replace h2 : z2 = nI (gpc2 (gpc1 s)) := h2
  subst h2
  intro z3 h3
  rw [pk_ushrN (by omega) 4 4 (by decide), nI_add, show (252645135 : Int32) = nI 252645135 from rfl, gm_andN] at h3
  replace h3 : z3 = nI (gpc3 (gpc2 (gpc1 s))) := h3
  subst h3
  intro z4 h4
  rw [pk_ushrN (by omega) 8 8 (by decide), nI_add] at h4
  replace h4 : z4 = nI (gpc4 (gpc3 (gpc2 (gpc1 s)))) := h4
  subst h4
  intro z5 h5
  rw [pk_ushrN (by omega) 16 16 (by decide), nI_add] at h5
  replace h5 : z5 = nI (gpc5 (gpc4 (gpc3 (gpc2 (gpc1 s))))) := h5
  subst h5
  rw [show (63 : Int32) = nI 63 from rfl, gm_andN]
  have key := gpc_ok (s / 256) (by omega) (s % 256) (by omega)
  rw [show 256 * (s / 256) + s % 256 = s by omega] at key
  rw [key, ← gb15_ok]
  exact hQ
/-! range, apart: sets -/
def gor (f : Nat → Bool) (v : Nat → Nat) : Nat → Nat
  | 0 => 0
  | i + 1 => if f i = true then gor f v i ||| 2 ^ v i else gor f v i
theorem gor_lt {f : Nat → Bool} {v : Nat → Nat} (h : ∀ i, v i < 15) (N : Nat) : gor f v N < 32768 := by
  induction N with
  | zero => exact (by decide : (0 : Nat) < 32768)
  | succ N ih =>
    show (if f N = true then gor f v N ||| 2 ^ v N else gor f v N) < 32768
    split
    · exact Nat.or_lt_two_pow (n := 15) ih (Nat.pow_lt_pow_right (by decide) (h N))
    · exact ih
theorem gor_t {f : Nat → Bool} {v : Nat → Nat} {i : Nat} (h : f i = true) : gor f v (i + 1) = gor f v i ||| 2 ^ v i := if_pos h
theorem gor_f {f : Nat → Bool} {v : Nat → Nat} {i : Nat} (h : ¬ f i = true) : gor f v (i + 1) = gor f v i := if_neg h
theorem gwalk {α : Type} (f : Nat → Bool) (F : Nat → α) (h : ∀ q, ¬ f q = true → F (q + 1) = F q) : ∀ N, ∃ G : Nat → α, ∀ q, q ≤ N → G (gcnt f q) = F q := by
  intro N
  induction N with
  | zero => exact ⟨fun _ => F 0, fun q hq => by rw [Nat.le_zero.mp hq]⟩
  | succ N ih =>
    obtain ⟨G, hG⟩ := ih
    by_cases e : f N = true
    · refine ⟨fun k => if k = gcnt f (N + 1) then F (N + 1) else G k, fun q hq => ?_⟩
      by_cases e2 : q = N + 1
      · subst e2; exact if_pos rfl
      · have h1 : gcnt f q ≤ gcnt f N := gcnt_mono f (by omega)
        have h2 := gcnt_s e
        show (if gcnt f q = gcnt f (N + 1) then F (N + 1) else G (gcnt f q)) = F q
        rw [if_neg (by omega)]
        exact hG q (by omega)
    · refine ⟨G, fun q hq => ?_⟩
      by_cases e2 : q = N + 1
      · subst e2
        rw [gcnt_n e, h N e]
        exact hG N (Nat.le_refl _)
      · exact hG q (by omega)
theorem gfull_box {C : Nat → Nat → Int32} {n most q : Nat} (h : gfull C n most q = true) : gbox most q = true := by
  unfold gfull at h
  rw [Bool.and_eq_true] at h
  exact h.1
theorem gfull_eq {C : Nat → Nat → Int32} {n most q : Nat} (hn : n ≤ 8) (hb : gbox most q = true) : (nI (gmask C n q) = nI (2 ^ n - 1)) ↔ gfull C n most q = true := by
  have h1 := gmask_lt C n q
  have h2 := gm_p2 n hn
  unfold gfull
  rw [nI_eq (by omega) (by omega), hb, Bool.true_and, decide_eq_true_eq]
theorem s_X5_valuesOf {seen changes : Int32} {h cells : Nat → Int32} {n most i : Nat} {Q : Int32 → Int32 → (Nat → Int32) → Prop} (hn : n ≤ 8) (hm : most ≤ 7) (hi : i < 4) (hv : seen = changes → gVh (fun k j => cells (6 * k + j)) n most h) (hQ : ∀ h', gVh (fun k j => cells (6 * k + j)) n most h' → Q (nI (gor (gfull (fun k j => cells (6 * k + j)) n most) (fun p => gv p i) 4096)) changes h') : p_X5_valuesOf seen h (nI n) (nI most) changes cells (nI i) Q := by
  unfold p_X5_valuesOf
  refine s_X5_lookAt hn hm hv (fun h' hh => s_X9_all hn ?_)
  refine gi2_inv 4096 (fun q a b => b = nI q ∧ a = nI (gor (gfull (fun k j => cells (6 * k + j)) n most) (fun p => gv p i) q)) ?_ ?_ ⟨rfl, rfl⟩
  · rintro q hq X a b ⟨rfl, rfl⟩ hX
    unfold p_X5_valuesOf_16 p_X5_valuesOf_48
    refine ⟨fun g => ?_, fun _ => ⟨vp_in_nI hq (by decide), ?_⟩⟩
    · rw [gl_4095, nI_ltI (by decide) (by omega)] at g; omega
    · rw [nI_clamp (by omega), hh q hq, ghat_full hn]
      have en : nI q + (1 : Int32) = nI (q + 1) := nI_add q 1
      refine ⟨fun g => s_X3_valueOf hq hi rfl ?_, fun g => ?_⟩
      · rw [gm_1sl _ (Nat.lt_trans (gv_lt q i) (by decide)), gm_orN, en]
        exact hX _ _ ⟨rfl, by rw [gor_t g]⟩
      · rw [en]
        exact hX _ _ ⟨rfl, by rw [gor_f g]⟩
  · rintro X a b ⟨rfl, rfl⟩
    unfold p_X5_valuesOf_16
    exact ⟨fun _ => hQ _ hh, fun g => absurd (by decide) g⟩
theorem gm_gap : ∀ a, a < 8 → ∀ b, b < 8 → nI a - nI b + (7 : Int32) = nI (a + 7 - b) := by decide +kernel
theorem s_X5_gapsOf {seen changes : Int32} {h cells : Nat → Int32} {n most i o : Nat} {Q : Int32 → Int32 → (Nat → Int32) → Prop} (hn : n ≤ 8) (hm : most ≤ 7) (hi : i < 4) (ho : o < 4) (hv : seen = changes → gVh (fun k j => cells (6 * k + j)) n most h) (hQ : ∀ h', gVh (fun k j => cells (6 * k + j)) n most h' → Q (nI (gor (gfull (fun k j => cells (6 * k + j)) n most) (fun p => gv p o + 7 - gv p i) 4096)) changes h') : p_X5_gapsOf seen h (nI n) (nI most) changes cells (nI i) (nI o) Q := by
  unfold p_X5_gapsOf
  refine s_X5_lookAt hn hm hv (fun h' hh => s_X9_all hn ?_)
  refine gi2_inv 4096 (fun q a b => b = nI q ∧ a = nI (gor (gfull (fun k j => cells (6 * k + j)) n most) (fun p => gv p o + 7 - gv p i) q)) ?_ ?_ ⟨rfl, rfl⟩
  · rintro q hq X a b ⟨rfl, rfl⟩ hX
    unfold p_X5_gapsOf_17 p_X5_gapsOf_60
    refine ⟨fun g => ?_, fun _ => ⟨vp_in_nI hq (by decide), ?_⟩⟩
    · rw [gl_4095, nI_ltI (by decide) (by omega)] at g; omega
    · rw [nI_clamp (by omega), hh q hq, ghat_full hn]
      have en : nI q + (1 : Int32) = nI (q + 1) := nI_add q 1
      have l1 := gv_lt q o
      have l2 := gv_lt q i
      refine ⟨fun g => s_X3_valueOf hq ho rfl (s_X3_valueOf hq hi rfl (fun z hz => ?_)), fun g => ?_⟩
      · rw [gm_gap _ l1 _ l2, gm_1sl _ (by omega), gm_orN] at hz
        rw [en]
        exact hX _ _ ⟨rfl, by rw [gor_t g]; exact hz⟩
      · rw [en]
        exact hX _ _ ⟨rfl, by rw [gor_f g]⟩
  · rintro X a b ⟨rfl, rfl⟩
    unfold p_X5_gapsOf_17
    exact ⟨fun _ => hQ _ hh, fun g => absurd (by decide) g⟩
theorem gm_b10 {s k : Nat} (h1 : s / 2 ^ k % 2 = 1) (h2 : s / 2 ^ k % 2 = 0) : False := by omega
