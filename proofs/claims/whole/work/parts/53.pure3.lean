theorem n10 : ¬ (1 : Int32) = 0 := by decide
-- bits of small sets
theorem bit_of : ∀ s, s < 64 → ∀ j, j < 6 → ((nI s >>> (nI j &&& 31)) &&& 1) = nI (s / 2 ^ j % 2) := by decide +kernel
theorem bit_with : ∀ s, s < 64 → ∀ j, j < 6 → ∀ v, v < 2 → ((nI s &&& ((1 <<< (nI j &&& 31)) ^^^ (-1))) ||| (nI v <<< (nI j &&& 31))) = nI (s - s / 2 ^ j % 2 * 2 ^ j + v * 2 ^ j) := by decide +kernel
theorem bs_lt {f : Nat → Nat} : ∀ {n : Nat}, (∀ i, i < n → f i ≤ 1) → bsum f n < 2 ^ n := by
  intro n
  induction n with
  | zero => intro _; exact Nat.zero_lt_one
  | succ n ih =>
    intro h
    have h1 := ih (fun i hi => h i (by omega))
    have h2 := h n (by omega)
    show bsum f n + f n * 2 ^ n < 2 ^ (n + 1)
    rw [Nat.pow_succ]
    have h3 : f n * 2 ^ n ≤ 1 * 2 ^ n := Nat.mul_le_mul_right _ h2
    omega
theorem bs_bit {f : Nat → Nat} : ∀ {n : Nat}, (∀ i, i < n → f i ≤ 1) → ∀ {j : Nat}, j < n → bsum f n / 2 ^ j % 2 = f j := by
  intro n
  induction n with
  | zero => intro _ j hj; omega
  | succ n ih =>
    intro h j hj
    show (bsum f n + f n * 2 ^ n) / 2 ^ j % 2 = f j
    have hl := bs_lt (n := n) (fun i hi => h i (by omega))
    by_cases e : j = n
    · subst e
      rw [Nat.add_mul_div_right _ _ (Nat.two_pow_pos j), Nat.div_eq_of_lt hl, Nat.zero_add]
      have := h j (by omega)
      omega
    · have hjn : j < n := by omega
      obtain ⟨d, rfl⟩ : ∃ d, n = j + d + 1 := ⟨n - j - 1, by omega⟩
      have e1 : f (j + d + 1) * 2 ^ (j + d + 1) = (f (j + d + 1) * 2 ^ d * 2) * 2 ^ j := by
        simp only [Nat.pow_succ, Nat.pow_add, Nat.mul_assoc, Nat.mul_comm, Nat.mul_left_comm]
      rw [e1, Nat.add_mul_div_right _ _ (Nat.two_pow_pos j), Nat.add_mul_mod_self_right]
      exact ih (fun i hi => h i (by omega)) hjn
theorem bs_congr {f g : Nat → Nat} : ∀ {n : Nat}, (∀ i, i < n → f i = g i) → bsum f n = bsum g n := by
  intro n
  induction n with
  | zero => intro _; rfl
  | succ n ih =>
    intro h
    show bsum f n + f n * 2 ^ n = bsum g n + g n * 2 ^ n
    rw [ih (fun i hi => h i (by omega)), h n (by omega)]
theorem bs_set {f g : Nat → Nat} {j v : Nat} (hg : ∀ i, g i = if i = j then v else f i) : ∀ {n : Nat}, j < n → bsum g n + f j * 2 ^ j = bsum f n + v * 2 ^ j := by
  intro n
  induction n with
  | zero => intro h; omega
  | succ n ih =>
    intro hj
    show bsum g n + g n * 2 ^ n + f j * 2 ^ j = bsum f n + f n * 2 ^ n + v * 2 ^ j
    by_cases e : j = n
    · subst e
      rw [hg j, if_pos rfl, bs_congr (f := g) (g := f) (fun i hi => by rw [hg i, if_neg (by omega)])]
      omega
    · have := ih (show j < n by omega)
      rw [hg n, if_neg (by omega)]
      omega
theorem bs_le {f : Nat → Nat} : ∀ {n j : Nat}, j < n → f j * 2 ^ j ≤ bsum f n := by
  intro n
  induction n with
  | zero => intro j h; omega
  | succ n ih =>
    intro j hj
    show f j * 2 ^ j ≤ bsum f n + f n * 2 ^ n
    by_cases e : j = n
    · subst e; omega
    · have := ih (j := j) (by omega)
      omega
theorem x_bitOf {f : Nat → Nat} {n j : Nat} (hn : n ≤ 6) (hf : ∀ i, i < n → f i ≤ 1) (hj : j < n) (h : AH) : f_X7_bitOf (nI (bsum f n)) (nI j) h = some (nI (f j), h) := by
  have hl := bs_lt hf
  have h64 : 2 ^ n ≤ 64 := Nat.pow_le_pow_right (by decide) hn
  show some (_, h) = _
  rw [bit_of _ (by omega) j (by omega), bs_bit hf hj]
theorem x_withBit {f g : Nat → Nat} {n j v : Nat} (hn : n ≤ 6) (hf : ∀ i, i < n → f i ≤ 1) (hj : j < n) (hv : v < 2) (hg : ∀ i, g i = if i = j then v else f i) (h : AH) : f_X7_withBit (nI (bsum f n)) (nI j) (nI v) h = some (nI (bsum g n), h) := by
  have hl := bs_lt hf
  have h64 : 2 ^ n ≤ 64 := Nat.pow_le_pow_right (by decide) hn
  show some (_, h) = _
  rw [bit_with _ (by omega) j (by omega) v hv, bs_bit hf hj]
  have h1 := bs_set hg hj
  have h2 := bs_le (f := f) hj
  rw [show bsum f n - f j * 2 ^ j + v * 2 ^ j = bsum g n by omega]
-- the bridge, read
theorem wf_a {σ : Sg} (w : WFs σ) {a : Nat} (h : a < σ 0 0) : σ 2 a ≤ 4 ∧ σ 3 a ≤ 4 ∧ 1 ≤ σ 4 a ∧ σ 4 a ≤ 30 ∧ σ 5 a ≤ 9 ∧ σ 6 a ≤ 1 := w.2.2.2.2.2.2.1 a h
theorem wf_b {σ : Sg} (w : WFs σ) {b : Nat} (h : b < σ 0 1) : 1 ≤ σ 7 b ∧ σ 7 b ≤ 5 ∧ σ 8 b ≤ 20 ∧ (∀ t, t < 4 → σ 9 (4 * b + t) ≤ 9) ∧ σ 10 b ≤ 1 := w.2.2.2.2.2.2.2.1 b h
theorem wf_w {σ : Sg} (w : WFs σ) {i : Nat} (h : i < 144) : σ 11 i ≤ 1 := w.2.2.2.2.2.2.2.2.1 i h
def CQ (h : AH) (q : Nat) (σ : Sg) : Prop := CR (h q) (h (q + 1)) (h (q + 2)) (h (q + 3)) (h (q + 4)) (h (q + 5)) (h (q + 6)) (h (q + 7)) (h (q + 8)) σ
theorem rg_le {α : Type} (x : Int32) (n : Nat) (P Q : α) : (if x < 0 then P else if nI n ≤ x then P else Q) = if rg x n = 0 then P else Q := rg_if x n P Q
theorem rg_v (x : Int32) (n : Nat) (h : AH) : (if rg x n = 0 then some ((0 : Int32), h) else some (1, h)) = some (rg x n, h) := by
  rcases rg_01 x n with e | e
  · rw [e, if_pos rfl]
  · rw [e, if_neg (by decide)]
theorem x_isArch {q : Nat} {h : AH} {σ : Sg} (hC : CQ h q σ) (x : Int32) : f_X2_isArch q x h = some (rg x (σ 0 0), h) := by
  unfold f_X2_isArch
  rw [hC.2.1, rg_le, rg_v]
theorem x_isBoat {q : Nat} {h : AH} {σ : Sg} (hC : CQ h q σ) (x : Int32) : f_X2_isBoat q x h = some (rg x (σ 0 1), h) := by
  unfold f_X2_isBoat
  rw [hC.2.2.1, rg_le, rg_v]
theorem m_isArch {h : AH} {σ : Sg} (hM : MR (h 4) σ) (w : WFs σ) (x : Int32) : f_X8_isArch 0 x h = some (rg x (σ 0 0), h) := by
  unfold f_X8_isArch
  have h6 := w.1
  rw [L0, ck_nI _ (by decide) (by decide), cl_nI (by decide), hM.1, m_inC x _ (by omega), bd_s, gz_rg]
theorem m_isBoat {h : AH} {σ : Sg} (hM : MR (h 4) σ) (w : WFs σ) (x : Int32) : f_X8_isBoat 0 x h = some (rg x (σ 0 1), h) := by
  unfold f_X8_isBoat
  have h6 := w.2.1
  rw [L1, ck_nI _ (by decide) (by decide), cl_nI (by decide), hM.2.1, ← L1, m_inC x _ (by omega), bd_s, gz_rg]
theorem m_of (h : AH) {b k : Nat} (hb : b < 6) (hk : k < 7) : f_X8_of 0 (nI b) (nI k) h = some (h 4 (58 + 7 * b + k), h) := by
  unfold f_X8_of
  simp (disch := omega) only [lt_s2, bd_s, bh_s, gz_0, gz_1, L0, L1, L2, L3, L4, L5, L6, L7, L8, L9, L10, L11, L12, L13, L14, L15, L16, L17, L18, L19, L20, L21, L22, L23, L24, L30, L31, L32, L36, L39, L40, L48, L57, L58, L59, L71, L72, L97, L99, L100, L122, L143, L144, L255, L320, L500, L720, L1000, L2300, L2400, nI_add, pk_mul, nI_leI, nI_ltI, nI_eqI, ck_nI, cl_nI, Nat.zero_add, Nat.add_zero, Nat.reduceAdd, Nat.reduceMul, if_pos, if_neg, if_true, if_false]
theorem m_archOf (h : AH) {a k : Nat} (ha : a < 6) (hk : k < 7) : f_X8_archOf 0 (nI a) (nI k) h = some (h 4 (16 + 7 * a + k), h) := by
  unfold f_X8_archOf
  simp (disch := omega) only [lt_s2, bd_s, bh_s, gz_0, gz_1, L0, L1, L2, L3, L4, L5, L6, L7, L8, L9, L10, L11, L12, L13, L14, L15, L16, L17, L18, L19, L20, L21, L22, L23, L24, L30, L31, L32, L36, L39, L40, L48, L57, L58, L59, L71, L72, L97, L99, L100, L122, L143, L144, L255, L320, L500, L720, L1000, L2300, L2400, nI_add, pk_mul, nI_leI, nI_ltI, nI_eqI, ck_nI, cl_nI, Nat.zero_add, Nat.add_zero, Nat.reduceAdd, Nat.reduceMul, if_pos, if_neg, if_true, if_false]
theorem x_charterOf {q : Nat} (h : AH) {d a : Nat} (hd : d < 2) (ha : a < 6) : f_X2_charterOf q (nI d) (nI a) h = some (h (q + 2) (6 * d + a), h) := by
  unfold f_X2_charterOf f_X2_charterPlace
  simp (disch := omega) only [lt_s2, bd_s, bh_s, gz_0, gz_1, L0, L1, L2, L3, L4, L5, L6, L7, L8, L9, L10, L11, L12, L13, L14, L15, L16, L17, L18, L19, L20, L21, L22, L23, L24, L30, L31, L32, L36, L39, L40, L48, L57, L58, L59, L71, L72, L97, L99, L100, L122, L143, L144, L255, L320, L500, L720, L1000, L2300, L2400, nI_add, pk_mul, nI_leI, nI_ltI, nI_eqI, ck_nI, cl_nI, Nat.zero_add, Nat.add_zero, Nat.reduceAdd, Nat.reduceMul, if_pos, if_neg, if_true, if_false]
  rw [Nat.mul_comm d 6]
theorem x_loadOf {q : Nat} (h : AH) {b t : Nat} (hb : b < 6) (ht : t < 4) : f_X2_loadOf q (nI b) (nI t) h = some (h (q + 7) (4 * b + t), h) := by
  unfold f_X2_loadOf f_X2_loadPlace
  simp (disch := omega) only [lt_s2, bd_s, bh_s, gz_0, gz_1, L0, L1, L2, L3, L4, L5, L6, L7, L8, L9, L10, L11, L12, L13, L14, L15, L16, L17, L18, L19, L20, L21, L22, L23, L24, L30, L31, L32, L36, L39, L40, L48, L57, L58, L59, L71, L72, L97, L99, L100, L122, L143, L144, L255, L320, L500, L720, L1000, L2300, L2400, nI_add, pk_mul, nI_leI, nI_ltI, nI_eqI, ck_nI, cl_nI, Nat.zero_add, Nat.add_zero, Nat.reduceAdd, Nat.reduceMul, if_pos, if_neg, if_true, if_false]
  rw [Nat.mul_comm b 4]
theorem x_wentIn {q : Nat} {h : AH} {σ : Sg} (hC : CQ h q σ) (w : WFs σ) {d a : Nat} (hd : d < 2) (ha : a < σ 0 0) : f_X2_wentIn q (nI d) (nI a) h = some (nI (σ 11 (72 * d + 6 * σ 0 2 + a)), h) := by
  have h6 := w.1
  have h11 := w.2.2.1
  unfold f_X2_wentIn
  rw [hC.2.2.2.1]
  simp (disch := omega) only [lt_s2, bd_s, bh_s, gz_0, gz_1, L0, L1, L2, L3, L4, L5, L6, L7, L8, L9, L10, L11, L12, L13, L14, L15, L16, L17, L18, L19, L20, L21, L22, L23, L24, L30, L31, L32, L36, L39, L40, L48, L57, L58, L59, L71, L72, L97, L99, L100, L122, L143, L144, L255, L320, L500, L720, L1000, L2300, L2400, nI_add, pk_mul, nI_leI, nI_ltI, nI_eqI, ck_nI, cl_nI, Nat.zero_add, Nat.add_zero, Nat.reduceAdd, Nat.reduceMul, if_pos, if_neg, if_true, if_false]
  rw [Nat.mul_comm d 12, hC.2.2.2.2.2.2.2.2.2.2 d (σ 0 2) hd (by omega), x_bitOf h6 (fun i hi => wf_w w (by omega)) ha, bd_s]
theorem ok_trace (a0 : Int32) : OK2 Rel (fun h => f_X7_trace 0 a0 h) (fun h => f_X8_trace 0 a0 h) := by
  intro hx hm hR
  show ∃ r hx2 hm2, f_X7_trace 0 a0 hx = some (r, hx2) ∧ f_X8_trace 0 a0 hm = some (r, hm2) ∧ Rel hx2 hm2
  obtain ⟨n, hn, e1, e2, e3⟩ := hR.2.2.2.2.2.2.1
  unfold f_X7_trace f_X1_traceAt f_X8_trace
  rw [lt_s2, hs_place _ _ _ _ _ (by decide), e2, m_inC a0 n (by omega), bd_s, Nat.zero_add, e1, rg_le]
  rcases rg_cases a0 (n := n) (by omega) with h0 | ⟨j, hj, rfl⟩
  · rw [h0, if_pos rfl, if_pos rfl, bd_s]
    exact ⟨_, _, _, rfl, rfl, rel_thrown hR⟩
  · rw [rg_in hj (by omega), if_neg n10, if_neg n10, ck_nI _ (by omega) (by decide), bd_s, ck_nI _ (by omega) (by decide), cl_nI (by omega), Nat.zero_add, hs_cell _ _ _ _ _ (by decide), ← e3 j hj]
    exact ⟨_, _, _, rfl, rfl, rel_thrown hR⟩
theorem ok_kind (a0 : Int32) : OK2 Rel (fun h => f_X7_kind 0 a0 h) (fun h => f_X8_kind 0 a0 h) := by
  intro hx hm hR
  show ∃ r hx2 hm2, f_X7_kind 0 a0 hx = some (r, hx2) ∧ f_X8_kind 0 a0 hm = some (r, hm2) ∧ Rel hx2 hm2
  obtain ⟨σ, w, hC, hM, -, -⟩ := hR.2.2.2.1
  have hC : CQ hx 17 σ := hC
  have hM2 : MR (hset hm 0 0 0 4) σ := by rw [hs_cell _ _ _ _ _ (by decide)]; exact hM
  unfold f_X7_kind f_X8_kind
  rw [lt_s2, Nat.zero_add, x_isBoat hC, m_isBoat hM2 w, bd_s, bd_s]
  rcases rg_cases a0 (n := σ 0 1) (by have := w.2.1; omega) with h0 | ⟨j, hj, rfl⟩
  · rw [h0, if_pos rfl, if_pos rfl]
    exact ⟨_, _, _, rfl, rfl, rel_thrown hR⟩
  · have h6 := w.2.1
    simp only [rg_in hj (show σ 0 1 < 2 ^ 31 by omega), if_neg n10]
    rw [ck_nI _ (by omega) (by decide), cl_nI (by omega), show (0 : Int32) = nI 0 from rfl, m_of _ (by omega) (by decide), bd_s]
    simp only [hs_cell _ 0 _ _ 4 (by decide), ← L0, Nat.add_zero]
    rw [(hM.2.2.2.2.2.2 j hj).1, show hx (17 + 5) j = nI (σ 7 j) from (hC.2.2.2.2.2.2.2.2.2.1 j hj).1]
    exact ⟨_, _, _, rfl, rfl, rel_thrown hR⟩
theorem ok_arch (a0 a1 : Int32) : OK2 Rel (fun h => f_X7_arch 0 a0 a1 h) (fun h => f_X8_arch 0 a0 a1 h) := by
  intro hx hm hR
  show ∃ r hx2 hm2, f_X7_arch 0 a0 a1 hx = some (r, hx2) ∧ f_X8_arch 0 a0 a1 hm = some (r, hm2) ∧ Rel hx2 hm2
  obtain ⟨σ, w, hC, hM, -, -⟩ := hR.2.2.2.1
  have hC : CQ hx 17 σ := hC
  have hM2 : MR (hset hm 0 0 0 4) σ := by rw [hs_cell _ _ _ _ _ (by decide)]; exact hM
  unfold f_X7_arch f_X8_arch
  rw [lt_s2, Nat.zero_add, x_isArch hC, m_isArch hM2 w, bd_s, bd_s]
  rcases rg_cases a0 (n := σ 0 0) (by have := w.1; omega) with h0 | ⟨j, hj, rfl⟩
  · rw [h0, if_pos rfl, if_pos rfl]
    exact ⟨_, _, _, rfl, rfl, rel_thrown hR⟩
  have h6 := w.1
  have h11 := w.2.2.1
  simp only [rg_in hj (show σ 0 0 < 2 ^ 31 by omega), if_neg n10, m_in6, bd_s]
  have ha := hM.2.2.2.2.2.1 j hj
  have hc := hC.2.2.2.2.2.2.2.2.1 j hj
  rcases rg_cases a1 (n := 7) (by decide) with h1 | ⟨k, hk, rfl⟩
  · have ne : ∀ v : Nat, v < 7 → ¬ a1 = nI v := by
      intro v hv e
      rw [e, rg_in hv (by decide)] at h1
      exact absurd h1 (by decide)
    simp only [h1, if_true, if_neg (show ¬ a1 = 0 from ne 0 (by decide)), if_neg (show ¬ a1 = 1 from ne 1 (by decide)), if_neg (show ¬ a1 = 2 from ne 2 (by decide)), if_neg (show ¬ a1 = 3 from ne 3 (by decide)), if_neg (show ¬ a1 = 4 from ne 4 (by decide)), if_neg (show ¬ a1 = 5 from ne 5 (by decide)), if_neg (show ¬ a1 = 6 from ne 6 (by decide))]
    exact ⟨_, _, _, rfl, rfl, rel_thrown hR⟩
  simp only [rg_in hk (by decide), if_neg n10, m_archOf _ (show j < 6 by omega) hk, bd_s, hs_cell _ 0 _ _ 4 (by decide)]
  rcases (show k = 0 ∨ k = 1 ∨ k = 2 ∨ k = 3 ∨ k = 4 ∨ k = 5 ∨ k = 6 by omega) with rfl | rfl | rfl | rfl | rfl | rfl | rfl
  · simp (disch := omega) only [lt_s2, bd_s, bh_s, gz_0, gz_1, L0, L1, L2, L3, L4, L5, L6, L7, L8, L9, L10, L11, L12, L13, L14, L15, L16, L17, L18, L19, L20, L21, L22, L23, L24, L30, L31, L32, L36, L39, L40, L48, L57, L58, L59, L71, L72, L97, L99, L100, L122, L143, L144, L255, L320, L500, L720, L1000, L2300, L2400, nI_add, pk_mul, nI_leI, nI_ltI, nI_eqI, ck_nI, cl_nI, Nat.zero_add, Nat.add_zero, Nat.reduceAdd, Nat.reduceMul, if_pos, if_neg, if_true, if_false, x_charterOf, ha.1, Nat.mul_zero, show hx 19 j = nI (σ 2 j) from hc.1]
    exact ⟨_, _, _, rfl, rfl, rel_thrown hR⟩
  · simp (disch := omega) only [lt_s2, bd_s, bh_s, gz_0, gz_1, L0, L1, L2, L3, L4, L5, L6, L7, L8, L9, L10, L11, L12, L13, L14, L15, L16, L17, L18, L19, L20, L21, L22, L23, L24, L30, L31, L32, L36, L39, L40, L48, L57, L58, L59, L71, L72, L97, L99, L100, L122, L143, L144, L255, L320, L500, L720, L1000, L2300, L2400, nI_add, pk_mul, nI_leI, nI_ltI, nI_eqI, ck_nI, cl_nI, Nat.zero_add, Nat.add_zero, Nat.reduceAdd, Nat.reduceMul, if_pos, if_neg, if_true, if_false, x_charterOf, ha.2.1, Nat.mul_one, show hx 19 (6 + j) = nI (σ 3 j) from hc.2.1]
    exact ⟨_, _, _, rfl, rfl, rel_thrown hR⟩
  · simp (disch := omega) only [lt_s2, bd_s, bh_s, gz_0, gz_1, L0, L1, L2, L3, L4, L5, L6, L7, L8, L9, L10, L11, L12, L13, L14, L15, L16, L17, L18, L19, L20, L21, L22, L23, L24, L30, L31, L32, L36, L39, L40, L48, L57, L58, L59, L71, L72, L97, L99, L100, L122, L143, L144, L255, L320, L500, L720, L1000, L2300, L2400, nI_add, pk_mul, nI_leI, nI_ltI, nI_eqI, ck_nI, cl_nI, Nat.zero_add, Nat.add_zero, Nat.reduceAdd, Nat.reduceMul, if_pos, if_neg, if_true, if_false, ha.2.2.1, show hx 20 j = nI (σ 4 j) from hc.2.2.1]
    exact ⟨_, _, _, rfl, rfl, rel_thrown hR⟩
  · simp (disch := omega) only [lt_s2, bd_s, bh_s, gz_0, gz_1, L0, L1, L2, L3, L4, L5, L6, L7, L8, L9, L10, L11, L12, L13, L14, L15, L16, L17, L18, L19, L20, L21, L22, L23, L24, L30, L31, L32, L36, L39, L40, L48, L57, L58, L59, L71, L72, L97, L99, L100, L122, L143, L144, L255, L320, L500, L720, L1000, L2300, L2400, nI_add, pk_mul, nI_leI, nI_ltI, nI_eqI, ck_nI, cl_nI, Nat.zero_add, Nat.add_zero, Nat.reduceAdd, Nat.reduceMul, if_pos, if_neg, if_true, if_false, ha.2.2.2.1, show hx 21 j = nI (σ 5 j) from hc.2.2.2]
    exact ⟨_, _, _, rfl, rfl, rel_thrown hR⟩
  · simp (disch := omega) only [lt_s2, bd_s, bh_s, gz_0, gz_1, L0, L1, L2, L3, L4, L5, L6, L7, L8, L9, L10, L11, L12, L13, L14, L15, L16, L17, L18, L19, L20, L21, L22, L23, L24, L30, L31, L32, L36, L39, L40, L48, L57, L58, L59, L71, L72, L97, L99, L100, L122, L143, L144, L255, L320, L500, L720, L1000, L2300, L2400, nI_add, pk_mul, nI_leI, nI_ltI, nI_eqI, ck_nI, cl_nI, Nat.zero_add, Nat.add_zero, Nat.reduceAdd, Nat.reduceMul, if_pos, if_neg, if_true, if_false, show hx 17 5 = _ from hC.2.2.2.2.2.1, x_bitOf h6 (fun i hi => (wf_a w hi).2.2.2.2.2) hj, ha.2.2.2.2.1]
    exact ⟨_, _, _, rfl, rfl, rel_thrown hR⟩
  · simp (disch := omega) only [lt_s2, bd_s, bh_s, gz_0, gz_1, L0, L1, L2, L3, L4, L5, L6, L7, L8, L9, L10, L11, L12, L13, L14, L15, L16, L17, L18, L19, L20, L21, L22, L23, L24, L30, L31, L32, L36, L39, L40, L48, L57, L58, L59, L71, L72, L97, L99, L100, L122, L143, L144, L255, L320, L500, L720, L1000, L2300, L2400, nI_add, pk_mul, nI_leI, nI_ltI, nI_eqI, ck_nI, cl_nI, Nat.zero_add, Nat.add_zero, Nat.reduceAdd, Nat.reduceMul, if_pos, if_neg, if_true, if_false, x_wentIn hC w (show 0 < 2 by decide) hj, ha.2.2.2.2.2.1, Nat.mul_zero]
    exact ⟨_, _, _, rfl, rfl, rel_thrown hR⟩
  · simp (disch := omega) only [lt_s2, bd_s, bh_s, gz_0, gz_1, L0, L1, L2, L3, L4, L5, L6, L7, L8, L9, L10, L11, L12, L13, L14, L15, L16, L17, L18, L19, L20, L21, L22, L23, L24, L30, L31, L32, L36, L39, L40, L48, L57, L58, L59, L71, L72, L97, L99, L100, L122, L143, L144, L255, L320, L500, L720, L1000, L2300, L2400, nI_add, pk_mul, nI_leI, nI_ltI, nI_eqI, ck_nI, cl_nI, Nat.zero_add, Nat.add_zero, Nat.reduceAdd, Nat.reduceMul, if_pos, if_neg, if_true, if_false, x_wentIn hC w (show 1 < 2 by decide) hj, ha.2.2.2.2.2.2, Nat.mul_one]
    exact ⟨_, _, _, rfl, rfl, rel_thrown hR⟩
