def gsp (C : Nat → Nat → Int32) (n mo k q : Nat) : Bool := gbox mo q && decide (nI (gmask C n q) ||| ((1 : Int32) <<< (nI k &&& 31)) = nI (2 ^ n - 1))
theorem gm_spare : ∀ n, n ≤ 8 → ∀ k, k < n → ∀ m, m < 2 ^ n → ((nI m ||| ((1 : Int32) <<< (nI k &&& 31)) = nI (2 ^ n - 1)) ↔ (nI m &&& (nI (2 ^ n - 1) &&& (((1 : Int32) <<< (nI k &&& 31)) ^^^ (-1 : Int32))) = nI (2 ^ n - 1) &&& (((1 : Int32) <<< (nI k &&& 31)) ^^^ (-1 : Int32)))) := by decide +kernel
theorem gm_spm : ∀ n, n ≤ 8 → ∀ k, k < n → ¬ ((-1 : Int32) ||| ((1 : Int32) <<< (nI k &&& 31)) = nI (2 ^ n - 1)) := by decide +kernel
theorem ghat_sp {C : Nat → Nat → Int32} {n mo k p : Nat} (hn : n ≤ 8) (hk : k < n) : (ghat C n mo p ||| ((1 : Int32) <<< (nI k &&& 31)) = nI (2 ^ n - 1)) ↔ gsp C n mo k p = true := by
  unfold ghat gsp
  by_cases hb : gbox mo p = true
  · rw [if_pos hb, hb, Bool.true_and, decide_eq_true_eq]
  · rw [if_neg hb, Bool.not_eq_true] at *
    rw [hb, Bool.false_and]
    exact ⟨fun z => absurd z (gm_spm n hn k hk), fun z => absurd z (by decide)⟩
theorem gsp_and {C : Nat → Nat → Int32} {n mo k q : Nat} (hn : n ≤ 8) (hk : k < n) : gsp C n mo k q = true ↔ gbox mo q = true ∧ nI (gmask C n q) &&& (nI (2 ^ n - 1) &&& (((1 : Int32) <<< (nI k &&& 31)) ^^^ (-1 : Int32))) = nI (2 ^ n - 1) &&& (((1 : Int32) <<< (nI k &&& 31)) ^^^ (-1 : Int32)) := by
  unfold gsp
  rw [Bool.and_eq_true, decide_eq_true_eq, gm_spare n hn k hk _ (gmask_lt C n q)]
def gbest (c : Nat → Nat) : Nat → Nat
  | 0 => 0
  | i + 1 => if c i ≤ c (gbest c i) then gbest c i else i
theorem gbest_lt (c : Nat → Nat) : ∀ i, gbest c (i + 1) ≤ i := by
  intro i
  induction i with
  | zero =>
    show (if c 0 ≤ c 0 then 0 else 0) ≤ 0
    split <;> exact Nat.le_refl _
  | succ i ih =>
    show (if c (i + 1) ≤ c (gbest c (i + 1)) then gbest c (i + 1) else i + 1) ≤ i + 1
    split
    · omega
    · omega
theorem s_X5_bestSpare {seen changes : Int32} {h cells tally : Nat → Int32} {n mo : Nat} {Q : Int32 → Int32 → (Nat → Int32) → (Nat → Int32) → Prop} (hn : n ≤ 8) (hm : mo ≤ 7) (hv : seen = changes → gVh (fun k j => cells (6 * k + j)) n mo h) (hQ : ∀ h' t', gVh (fun k j => cells (6 * k + j)) n mo h' → (∀ j, j < n → t' j = nI (gcnt (gsp (fun k j => cells (6 * k + j)) n mo j) 4096)) → Q (nI (gbest (fun j => gcnt (gsp (fun k j => cells (6 * k + j)) n mo j) 4096) n)) changes h' t') : p_X5_bestSpare seen h tally (nI n) (nI mo) changes cells Q := by
  unfold p_X5_bestSpare
  refine s_X5_lookAt hn hm hv (fun h' hh => s_X9_all hn ?_)
  have cle : ∀ j, gcnt (gsp (fun k j => cells (6 * k + j)) n mo j) 4096 ≤ 4096 := fun j => gcnt_le _ _
  refine gi3_inv n (fun i a b e => b = nI i ∧ a = nI (gbest (fun j => gcnt (gsp (fun k j => cells (6 * k + j)) n mo j) 4096) i) ∧ ∀ j, j < i → e j = nI (gcnt (gsp (fun k j => cells (6 * k + j)) n mo j) 4096)) ?_ ?_ ⟨rfl, rfl, fun j hj => absurd hj (Nat.not_lt_zero j)⟩
  · rintro i hi X a b e ⟨rfl, rfl, he⟩ hX
    unfold p_X5_bestSpare_15
    refine ⟨fun g => ?_, fun _ => ⟨vp_in_nI (by omega) (by decide), ?_⟩⟩
    · rw [nI_leI (by omega) (by omega)] at g; omega
    · rw [nI_clamp (by omega)]
      refine gi2_inv 4096 (fun q a e' => a = nI q ∧ e' i = nI (gcnt (gsp (fun k j => cells (6 * k + j)) n mo i) q) ∧ ∀ j, j < i → e' j = nI (gcnt (gsp (fun k j => cells (6 * k + j)) n mo j) 4096)) ?_ ?_ ⟨rfl, pk_us, fun j hj => by rw [pk_un (by omega)]; exact he j hj⟩
      · rintro q hq Y a e' ⟨rfl, e1, e2⟩ hY
        unfold p_X5_bestSpare_35 p_X5_bestSpare_70
        have en : nI q + (1 : Int32) = nI (q + 1) := nI_add q 1
        refine ⟨fun g => ?_, fun _ => ⟨vp_in_nI hq (by decide), ?_⟩⟩
        · rw [gl_4095, nI_ltI (by decide) (by omega)] at g; omega
        · rw [nI_clamp (by omega), hh q hq, ghat_sp hn hi, nI_clamp (n := i) (by omega), en]
          refine ⟨fun g => ⟨vp_in_nI (by omega) (by decide), vp_in_nI (by omega) (by decide), hY _ _ ⟨rfl, ?_, fun j hj => ?_⟩⟩, fun g => hY _ _ ⟨rfl, ?_, e2⟩⟩
          · rw [pk_us, e1, gcnt_s g]
            exact nI_add _ 1
          · rw [pk_un (by omega)]
            exact e2 j hj
          · rw [e1, gcnt_n g]
      · rintro Y a e' ⟨rfl, e1, e2⟩
        unfold p_X5_bestSpare_35 p_X5_bestSpare_98
        have en : nI i + (1 : Int32) = nI (i + 1) := nI_add i 1
        have hb : gbest (fun j => gcnt (gsp (fun k j => cells (6 * k + j)) n mo j) 4096) i < 8 ∧ e' (gbest (fun j => gcnt (gsp (fun k j => cells (6 * k + j)) n mo j) 4096) i) = nI (gcnt (gsp (fun k j => cells (6 * k + j)) n mo (gbest (fun j => gcnt (gsp (fun k j => cells (6 * k + j)) n mo j) 4096) i)) 4096) := by
          rcases i with _ | i
          · exact ⟨(by decide : (0 : Nat) < 8), e1⟩
          · have := gbest_lt (fun j => gcnt (gsp (fun k j => cells (6 * k + j)) n mo j) 4096) i
            exact ⟨by omega, e2 _ (by omega)⟩
        refine ⟨fun _ => ⟨vp_in_nI (by omega) (by decide), vp_in_nI hb.1 (by decide), ?_⟩, fun g => absurd (by decide) g⟩
        rw [nI_clamp (n := i) (by omega), nI_clamp (by omega), e1, hb.2, nI_leI (by have := cle i; omega) (by have := cle (gbest (fun j => gcnt (gsp (fun k j => cells (6 * k + j)) n mo j) 4096) i); omega), en]
        refine ⟨fun g => hX _ _ _ ⟨rfl, ?_, fun j hj => ?_⟩, fun g => hX _ _ _ ⟨rfl, ?_, fun j hj => ?_⟩⟩
        · exact congrArg nI (if_pos g).symm
        · by_cases ej : j = i
          · subst ej; exact e1
          · exact e2 j (by omega)
        · exact congrArg nI (if_neg g).symm
        · by_cases ej : j = i
          · subst ej; exact e1
          · exact e2 j (by omega)
  · rintro X a b e ⟨rfl, rfl, he⟩
    unfold p_X5_bestSpare_15
    exact ⟨fun _ => hQ _ _ hh he, fun g => absurd (by rw [nI_leI (by omega) (by omega)]; exact Nat.le_refl _) g⟩
theorem gmask_fn {n mo : Nat} {cells now : Nat → Int32} {size most draw : Int32} (hS : gSnap n mo cells size most draw now) : gmask (fun k j => cells (6 * k + j)) n = gmask (fun k j => now (3 + 6 * k + j)) n := by
  obtain ⟨hn, -, -, rfl, -, h0, -, -, -, hc, -⟩ := hS
  funext p
  exact gmask_cg hc
theorem gsp_fn {n mo : Nat} {cells now : Nat → Int32} {size most draw : Int32} (hS : gSnap n mo cells size most draw now) : gsp (fun k j => cells (6 * k + j)) n mo = gsp (fun k j => now (3 + 6 * k + j)) n mo := by
  funext k q
  unfold gsp
  rw [gmask_fn hS]
