/-! what is told, and what was told ahead -/
def gRng (n : Nat) (f : Nat → Int32) : Prop := ∀ k, k < n → (∀ j, j < 4 → -9 ≤ (f (6 * k + j)).toInt ∧ (f (6 * k + j)).toInt ≤ 9) ∧ (-99 ≤ (f (6 * k + 4)).toInt ∧ (f (6 * k + 4)).toInt ≤ 99) ∧ ∃ c, c ≤ 4 ∧ f (6 * k + 5) = nI c
def gSnap (n mo : Nat) (f : Nat → Int32) (size most draw : Int32) (g : Nat → Int32) : Prop :=
  n ≤ 8 ∧ 1 ≤ mo ∧ mo ≤ 7 ∧ size = nI n ∧ most = nI mo ∧ g 0 = nI n ∧ g 1 = nI mo ∧ g 2 = draw ∧ 0 ≤ draw.toInt ∧ (∀ k, k < n → ∀ j, j < 6 → f (6 * k + j) = g (3 + 6 * k + j)) ∧ gRng n f
theorem gSnap.cg {n mo : Nat} {f f' : Nat → Int32} {size most draw : Int32} {g g' : Nat → Int32} (h : gSnap n mo f size most draw g) (hf : ∀ q, q < 48 → f' q = f q) (hg : ∀ q, q < 51 → g' q = g q) : gSnap n mo f' size most draw g' := by
  obtain ⟨h1, h2, h3, h4, h5, h6, h7, h8, h9, h10, h11⟩ := h
  refine ⟨h1, h2, h3, h4, h5, by rw [hg 0 (by decide), h6], by rw [hg 1 (by decide), h7], by rw [hg 2 (by decide), h8], h9, fun k hk j hj => ?_, fun k hk => ?_⟩
  · rw [hf _ (by omega), hg _ (by omega)]
    exact h10 k hk j hj
  · obtain ⟨a, b, c⟩ := h11 k hk
    refine ⟨fun j hj => ?_, ?_, ?_⟩
    · rw [hf _ (by omega)]; exact a j hj
    · rw [hf _ (by omega)]; exact b
    · rw [hf _ (by omega)]; exact c
def gPast (u : Nat) (past ahead : Nat → Int32) : Prop := ∀ i, i < u → ∃ n mo, gSnap n mo (fun q => past (51 * i + q)) (past (51 * i + 48)) (past (51 * i + 49)) (past (51 * i + 50)) (fun q => ahead (51 * i + q))
theorem gPast.cg {u : Nat} {past past' ahead ahead' : Nat → Int32} (hu : u ≤ 8) (h : gPast u past ahead) (hp : ∀ q, q < 408 → past' q = past q) (ha : ∀ q, q < 408 → ahead' q = ahead q) : gPast u past' ahead' := by
  intro i hi
  obtain ⟨n, mo, h⟩ := h i hi
  refine ⟨n, mo, ?_⟩
  rw [hp _ (by omega), hp _ (by omega), hp _ (by omega)]
  exact h.cg (fun q hq => hp _ (by omega)) (fun q hq => ha _ (by omega))
def gBook (n mo u : Nat) (cells : Nat → Int32) (size most draw known : Int32) (past now : Nat → Int32) (undos : Int32) (ahead : Nat → Int32) : Prop := gSnap n mo cells size most draw now ∧ u ≤ 8 ∧ known = nI u ∧ undos = nI u ∧ gPast u past ahead
/-- the slot that comes, by how much the others move -/
def gSlot (u v d : Nat) : Prop := u = 8 ∧ v = 7 ∧ d = 1 ∨ u < 8 ∧ v = u ∧ d = 0
theorem gx_51 (v : Nat) : nI v * (51 : Int32) = nI (51 * v) := by
  rw [show (51 : Int32) = nI 51 from rfl, pk_mul, Nat.mul_comm]
theorem gx_51m (v q : Nat) : (51 : Int32) * nI v + nI q = nI (51 * v + q) := by
  rw [show (51 : Int32) = nI 51 from rfl, pk_mul, nI_add]
theorem gcl_48 : (48 : Int32).toNatClampNeg = 48 := by decide
theorem gcl_51 : (51 : Int32).toNatClampNeg = 51 := by decide
theorem gcl_408 : (408 : Int32).toNatClampNeg = 408 := by decide
theorem s_X0_keep_40 {v : Nat} {size most draw : Int32} {cells p1 : Nat → Int32} {Q : Int32 → (Nat → Int32) → Prop} (hv : v ≤ 7) (hQ : ∀ past', (∀ q, q < 51 * v → past' q = p1 q) → (∀ q, q < 48 → past' (51 * v + q) = cells q) → past' (51 * v + 48) = size → past' (51 * v + 49) = most → past' (51 * v + 50) = draw → Q (nI (v + 1)) past') : p_X0_keep_40 (nI v) size most draw cells p1 Q := by
  unfold p_X0_keep_40 p_X9_saveTo
  rw [gx_51]
  have e0 : nI (51 * v) + (48 : Int32) = nI (51 * v + 48) := nI_add _ 48
  have e1 : nI (51 * v) + (48 : Int32) + (1 : Int32) = nI (51 * v + 49) := by rw [e0]; exact nI_add _ 1
  have e2 : nI (51 * v) + (48 : Int32) + (2 : Int32) = nI (51 * v + 50) := by rw [e0]; exact nI_add _ 2
  refine ⟨by decide, nI_pos (by omega), by decide, by decide, ?_, gx_in _ e0 (by omega) (by decide), gx_in _ e1 (by omega) (by decide), gx_in _ e2 (by omega) (by decide), ?_⟩
  · rw [nI_clamp (by omega), gcl_48]; omega
  · rw [gx_cl _ e0 (by omega), gx_cl _ e1 (by omega), gx_cl _ e2 (by omega), nI_clamp (by omega), gcl_48, gcl_0, gl_1, nI_add]
    refine hQ _ (fun q hq => ?_) (fun q hq => ?_) ?_ ?_ ?_
    · rw [pk_un (by omega), pk_un (by omega), pk_un (by omega), pk_cpy_out (by omega)]
    · rw [pk_un (by omega), pk_un (by omega), pk_un (by omega), pk_cpy_in (by omega) (by omega)]
      congr 1
      omega
    · rw [pk_un (by omega), pk_un (by omega), pk_us]
    · rw [pk_un (by omega), pk_us]
    · rw [pk_us]
theorem s_X0_keep {u : Nat} {known size most draw : Int32} {cells past : Nat → Int32} {Q : Int32 → (Nat → Int32) → Prop} (hu : u ≤ 8) (hk : known = nI u) (hQ : ∀ v d past', gSlot u v d → (∀ i, i < v → ∀ q, q < 51 → past' (51 * i + q) = past (51 * (i + d) + q)) → (∀ q, q < 48 → past' (51 * v + q) = cells q) → past' (51 * v + 48) = size → past' (51 * v + 49) = most → past' (51 * v + 50) = draw → Q (nI (v + 1)) past') : p_X0_keep known size most draw cells past Q := by
  subst hk
  unfold p_X0_keep
  by_cases h8 : u = 8
  · subst h8
    refine ⟨fun _ => ⟨by decide, by decide, by decide, by decide, by decide, ?_⟩, fun g => absurd rfl g⟩
    refine s_X0_keep_40 (v := 7) (by decide) (fun past' g1 g2 g3 g4 g5 => hQ 7 1 past' (Or.inl ⟨rfl, rfl, rfl⟩) (fun i hi q hq => ?_) g2 g3 g4 g5)
    rw [g1 _ (by omega)]
    have e : ((nI 8 - (1 : Int32)) * (51 : Int32)).toNatClampNeg = 357 := by decide
    rw [e, gcl_51, gcl_0, pk_cpy_in (by omega) (by omega)]
    congr 1
    omega
  · refine ⟨fun g => ?_, fun _ => s_X0_keep_40 (by omega) (fun past' g1 g2 g3 g4 g5 => hQ u 0 past' (Or.inr ⟨by omega, rfl, rfl⟩) (fun i hi q hq => ?_) g2 g3 g4 g5)⟩
    · rw [gl_8, nI_eq (by omega) (by decide)] at g; exact absurd g h8
    · rw [g1 _ (by omega)]; rfl
theorem gSlot_le {u v d : Nat} (h : gSlot u v d) : v ≤ 7 ∧ v + d ≤ u := by
  rcases h with ⟨rfl, rfl, rfl⟩ | ⟨h, rfl, rfl⟩ <;> omega
theorem gSlot_fun {u v d v' d' : Nat} (h : gSlot u v d) (h' : gSlot u v' d') : v' = v ∧ d' = d := by
  rcases h with ⟨rfl, rfl, rfl⟩ | ⟨h, rfl, rfl⟩ <;> rcases h' with ⟨h1, rfl, rfl⟩ | ⟨h1, rfl, rfl⟩ <;> omega
/-- after both noted: what was ahead -/
theorem gPast_keep {u v d n mo : Nat} {cells past past' ahead ahead' now : Nat → Int32} {size most draw : Int32} (hs : gSlot u v d) (hp : gPast u past ahead) (hn : gSnap n mo cells size most draw now)
    (p1 : ∀ i, i < v → ∀ q, q < 51 → past' (51 * i + q) = past (51 * (i + d) + q)) (p2 : ∀ q, q < 48 → past' (51 * v + q) = cells q) (p3 : past' (51 * v + 48) = size) (p4 : past' (51 * v + 49) = most) (p5 : past' (51 * v + 50) = draw)
    (a1 : ∀ i, i < v → ∀ q, q < 51 → ahead' (51 * i + q) = ahead (51 * (i + d) + q)) (a2 : ∀ q, q < 51 → ahead' (51 * v + q) = now q) : gPast (v + 1) past' ahead' := by
  have hle := gSlot_le hs
  intro i hi
  by_cases e : i = v
  · subst e
    refine ⟨n, mo, ?_⟩
    rw [p3, p4, p5]
    exact hn.cg p2 a2
  · obtain ⟨n', mo', h⟩ := hp (i + d) (by omega)
    refine ⟨n', mo', ?_⟩
    rw [p1 i (by omega) 48 (by decide), p1 i (by omega) 49 (by decide), p1 i (by omega) 50 (by decide)]
    exact h.cg (fun q hq => p1 i (by omega) q (by omega)) (fun q hq => a1 i (by omega) q hq)
