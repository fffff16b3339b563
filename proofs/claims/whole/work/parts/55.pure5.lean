-- who may go by
def sd (σ : Sg) (b : Nat) : Nat := if σ 7 b < 4 then 0 else 1
theorem sd_lt (σ : Sg) (b : Nat) : sd σ b < 2 := by unfold sd; split <;> decide
def lb (c t : Nat) : Nat := if c = 4 then 1 else if t = 0 ∨ t = 2 ^ c then 1 else 0
def cfb (t : Nat) : Nat := if t = 0 then 31 else if mxd t = 0 then 16 + t else 16
def ned (s m : Nat) : Nat := if s = 3 then m / 2 else if s = 4 ∨ s = 5 then 0 else m
def rmv (s m hi ti : Nat) : Nat := if hi < ti + ned s m then 0 else if s = 5 ∧ hi < 10 then 0 else 1
def ltb (σ : Sg) (b a t c : Nat) : Nat := if σ 6 a = 1 then 0 else if lb c (tr σ b) = 0 then 0 else rmv (σ 7 b) (σ 8 b) (σ 4 a) (σ 1 t)
theorem lb_01 (c t : Nat) : lb c t = 0 ∨ lb c t = 1 := by unfold lb; split; exact Or.inr rfl; split; exact Or.inr rfl; exact Or.inl rfl
theorem rmv_01 (s m hi ti : Nat) : rmv s m hi ti = 0 ∨ rmv s m hi ti = 1 := by unfold rmv; split; exact Or.inl rfl; split; exact Or.inl rfl; exact Or.inr rfl
theorem ltb_01 (σ : Sg) (b a t c : Nat) : ltb σ b a t c = 0 ∨ ltb σ b a t c = 1 := by unfold ltb; split; exact Or.inl rfl; split; exact Or.inl rfl; exact rmv_01 _ _ _ _
theorem n01_lt {n : Nat} (h : n = 0 ∨ n = 1) : n < 2 := by omega
theorem cf_bit : ∀ t, t < 16 → ∀ c, c < 5 → ((nI (cfb t) >>> (nI c &&& 31)) &&& 1) = nI (lb c t) := by decide +kernel
theorem cf_or : ∀ t, t < 16 → (16 ||| nI t) = nI (16 + t) := by decide +kernel
theorem lb_m : ∀ t, t < 16 → ∀ c, c < 4 → decide ((nI t &&& ((1 <<< (nI c &&& 31)) ^^^ (-1))) = 0) = decide (lb c t = 1) := by decide +kernel
theorem sub_lt {a b c : Nat} (ha : a < 2 ^ 30) (hb : b < 2 ^ 30) (hc : c < 2 ^ 30) : (nI a - nI b < nI c) = (a < b + c) := by
  apply propext
  rw [Int32.lt_iff_toInt_lt, pk_sub_toInt ha hb, nI_toInt (by omega)]
  omega
theorem div2 {m : Nat} (h : m < 2 ^ 31) : nI m / nI 2 = nI (m / 2) := pk_div h (by decide) (by decide)
theorem x_sideOf {h : AH} {q : Nat} {σ : Sg} (hC : CQ h q σ) (w : WFs σ) {b : Nat} (hb : b < σ 0 1) : f_X2_sideOf q (nI b) h = some (nI (sd σ b), h) := by
  have h6 := w.2.1
  have h5 := (wf_b w hb).2.1
  unfold f_X2_sideOf sd
  rw [ck_nI _ (by omega) (by decide), cl_nI (by omega), (hC.2.2.2.2.2.2.2.2.2.1 b hb).1]
  by_cases c : σ 7 b < 4
  · simp (disch := omega) only [lt_s2, bd_s, bh_s, gz_0, gz_1, L0, L1, L2, L3, L4, L5, L6, L7, L8, L9, L10, L11, L12, L13, L14, L15, L16, L17, L18, L19, L20, L21, L22, L23, L24, L30, L31, L32, L36, L39, L40, L48, L57, L58, L59, L71, L72, L97, L99, L100, L122, L143, L144, L255, L320, L500, L720, L1000, L2300, L2400, nI_add, pk_mul, nI_leI, nI_ltI, nI_eqI, ck_nI, cl_nI, Nat.zero_add, Nat.add_zero, Nat.reduceAdd, Nat.reduceMul, if_pos, if_neg, if_true, if_false]
  · simp (disch := omega) only [lt_s2, bd_s, bh_s, gz_0, gz_1, L0, L1, L2, L3, L4, L5, L6, L7, L8, L9, L10, L11, L12, L13, L14, L15, L16, L17, L18, L19, L20, L21, L22, L23, L24, L30, L31, L32, L36, L39, L40, L48, L57, L58, L59, L71, L72, L97, L99, L100, L122, L143, L144, L255, L320, L500, L720, L1000, L2300, L2400, nI_add, pk_mul, nI_leI, nI_ltI, nI_eqI, ck_nI, cl_nI, Nat.zero_add, Nat.add_zero, Nat.reduceAdd, Nat.reduceMul, if_pos, if_neg, if_true, if_false]
theorem m_sideOf {h : AH} {σ : Sg} (hM : MR (h 4) σ) (w : WFs σ) {b : Nat} (hb : b < σ 0 1) : f_X8_sideOf 0 (nI b) h = some (nI (sd σ b), h) := by
  have h6 := w.2.1
  have h5 := (wf_b w hb).2.1
  unfold f_X8_sideOf sd
  rw [L0, m_of _ (by omega) (by decide), bd_s, Nat.add_zero, (hM.2.2.2.2.2.2 b hb).1]
  by_cases c : σ 7 b < 4
  · simp (disch := omega) only [lt_s2, bd_s, bh_s, gz_0, gz_1, L0, L1, L2, L3, L4, L5, L6, L7, L8, L9, L10, L11, L12, L13, L14, L15, L16, L17, L18, L19, L20, L21, L22, L23, L24, L30, L31, L32, L36, L39, L40, L48, L57, L58, L59, L71, L72, L97, L99, L100, L122, L143, L144, L255, L320, L500, L720, L1000, L2300, L2400, nI_add, pk_mul, nI_leI, nI_ltI, nI_eqI, ck_nI, cl_nI, Nat.zero_add, Nat.add_zero, Nat.reduceAdd, Nat.reduceMul, if_pos, if_neg, if_true, if_false]
  · simp (disch := omega) only [lt_s2, bd_s, bh_s, gz_0, gz_1, L0, L1, L2, L3, L4, L5, L6, L7, L8, L9, L10, L11, L12, L13, L14, L15, L16, L17, L18, L19, L20, L21, L22, L23, L24, L30, L31, L32, L36, L39, L40, L48, L57, L58, L59, L71, L72, L97, L99, L100, L122, L143, L144, L255, L320, L500, L720, L1000, L2300, L2400, nI_add, pk_mul, nI_leI, nI_ltI, nI_eqI, ck_nI, cl_nI, Nat.zero_add, Nat.add_zero, Nat.reduceAdd, Nat.reduceMul, if_pos, if_neg, if_true, if_false]
theorem x_chartersFor {h : AH} {q : Nat} {σ : Sg} (hC : CQ h q σ) (w : WFs σ) {b : Nat} (hb : b < σ 0 1) : f_X2_chartersFor q (nI b) h = some (nI (cfb (tr σ b)), h) := by
  have ht := tr_lt σ b
  unfold f_X2_chartersFor
  rw [x_tradesOf hC w hb, bd_s, x_bitCount (by omega), bd_s, cf_or _ ht]
  have em := mx_x _ ht
  unfold cfb
  by_cases c : tr σ b = 0
  · simp (disch := omega) only [lt_s2, bd_s, bh_s, gz_0, gz_1, L0, L1, L2, L3, L4, L5, L6, L7, L8, L9, L10, L11, L12, L13, L14, L15, L16, L17, L18, L19, L20, L21, L22, L23, L24, L30, L31, L32, L36, L39, L40, L48, L57, L58, L59, L71, L72, L97, L99, L100, L122, L143, L144, L255, L320, L500, L720, L1000, L2300, L2400, nI_add, pk_mul, nI_leI, nI_ltI, nI_eqI, ck_nI, cl_nI, Nat.zero_add, Nat.add_zero, Nat.reduceAdd, Nat.reduceMul, if_pos, if_neg, if_true, if_false]
  · rcases mxd_01 (tr σ b) with e | e
    · rw [e] at em
      rw [if_pos (em.mpr rfl), e]
      simp (disch := omega) only [lt_s2, bd_s, bh_s, gz_0, gz_1, L0, L1, L2, L3, L4, L5, L6, L7, L8, L9, L10, L11, L12, L13, L14, L15, L16, L17, L18, L19, L20, L21, L22, L23, L24, L30, L31, L32, L36, L39, L40, L48, L57, L58, L59, L71, L72, L97, L99, L100, L122, L143, L144, L255, L320, L500, L720, L1000, L2300, L2400, nI_add, pk_mul, nI_leI, nI_ltI, nI_eqI, ck_nI, cl_nI, Nat.zero_add, Nat.add_zero, Nat.reduceAdd, Nat.reduceMul, if_pos, if_neg, if_true, if_false]
    · rw [e] at em
      rw [if_neg (fun k => absurd (em.mp k) (by decide)), e]
      simp (disch := omega) only [lt_s2, bd_s, bh_s, gz_0, gz_1, L0, L1, L2, L3, L4, L5, L6, L7, L8, L9, L10, L11, L12, L13, L14, L15, L16, L17, L18, L19, L20, L21, L22, L23, L24, L30, L31, L32, L36, L39, L40, L48, L57, L58, L59, L71, L72, L97, L99, L100, L122, L143, L144, L255, L320, L500, L720, L1000, L2300, L2400, nI_add, pk_mul, nI_leI, nI_ltI, nI_eqI, ck_nI, cl_nI, Nat.zero_add, Nat.add_zero, Nat.reduceAdd, Nat.reduceMul, if_pos, if_neg, if_true, if_false]
theorem x_isShut {h : AH} {q : Nat} {σ : Sg} (hC : CQ h q σ) (w : WFs σ) {a : Nat} (ha : a < σ 0 0) : f_X2_isShut q (nI a) h = some (nI (σ 6 a), h) := by
  have h6 := w.1
  have h1 := (wf_a w ha).2.2.2.2.2
  unfold f_X2_isShut
  rw [hC.2.2.2.2.2.1, x_bitOf h6 (fun i hi => (wf_a w hi).2.2.2.2.2) ha, bd_s]
  rcases (show σ 6 a = 0 ∨ σ 6 a = 1 by omega) with e | e
  · rw [e]; rfl
  · rw [e]; rfl
theorem x_hasRoom {h : AH} {q : Nat} {σ : Sg} (hC : CQ h q σ) (w : WFs σ) {b a ti : Nat} (hb : b < σ 0 1) (ha : a < σ 0 0) (hti : ti ≤ 30) : f_X2_hasRoom q (nI b) (nI a) (nI ti) h = some (nI (rmv (σ 7 b) (σ 8 b) (σ 4 a) ti), h) := by
  have h6 := w.2.1
  have h6a := w.1
  have hw := wf_b w hb
  have hwa := wf_a w ha
  have c1 := hC.2.2.2.2.2.2.2.2.2.1 b hb
  have c2 := hC.2.2.2.2.2.2.2.2.1 a ha
  have l8 := hw.2.2.1; have l7 := hw.2.1; have l4 := hwa.2.2.2.1
  unfold f_X2_hasRoom
  simp (disch := omega) only [ck_nI, cl_nI, lt_s2, c1.1, c1.2.1, c2.2.2.1, L0, L1, L2, L3, L4, L5, L6, L7, L8, L9, L10, L11, L12, L13, L14, L15, L16, L17, L18, L19, L20, L21, L22, L23, L24, L30, L31, L32, L36, L39, L40, L48, L57, L58, L59, L71, L72, L97, L99, L100, L122, L143, L144, L255, L320, L500, L720, L1000, L2300, L2400, div2, sub_lt]
  unfold rmv ned
  by_cases c3 : σ 7 b = 3
  · by_cases k : σ 4 a < ti + σ 8 b / 2
    · simp (disch := omega) only [lt_s2, bd_s, bh_s, gz_0, gz_1, L0, L1, L2, L3, L4, L5, L6, L7, L8, L9, L10, L11, L12, L13, L14, L15, L16, L17, L18, L19, L20, L21, L22, L23, L24, L30, L31, L32, L36, L39, L40, L48, L57, L58, L59, L71, L72, L97, L99, L100, L122, L143, L144, L255, L320, L500, L720, L1000, L2300, L2400, nI_add, pk_mul, nI_leI, nI_ltI, nI_eqI, ck_nI, cl_nI, Nat.zero_add, Nat.add_zero, Nat.reduceAdd, Nat.reduceMul, if_pos, if_neg, if_true, if_false, c3, k]
    · simp (disch := omega) only [lt_s2, bd_s, bh_s, gz_0, gz_1, L0, L1, L2, L3, L4, L5, L6, L7, L8, L9, L10, L11, L12, L13, L14, L15, L16, L17, L18, L19, L20, L21, L22, L23, L24, L30, L31, L32, L36, L39, L40, L48, L57, L58, L59, L71, L72, L97, L99, L100, L122, L143, L144, L255, L320, L500, L720, L1000, L2300, L2400, nI_add, pk_mul, nI_leI, nI_ltI, nI_eqI, ck_nI, cl_nI, Nat.zero_add, Nat.add_zero, Nat.reduceAdd, Nat.reduceMul, if_pos, if_neg, if_true, if_false, c3]
  · by_cases c4 : σ 7 b = 4
    · by_cases k : σ 4 a < ti + 0
      · simp (disch := omega) only [lt_s2, bd_s, bh_s, gz_0, gz_1, L0, L1, L2, L3, L4, L5, L6, L7, L8, L9, L10, L11, L12, L13, L14, L15, L16, L17, L18, L19, L20, L21, L22, L23, L24, L30, L31, L32, L36, L39, L40, L48, L57, L58, L59, L71, L72, L97, L99, L100, L122, L143, L144, L255, L320, L500, L720, L1000, L2300, L2400, nI_add, pk_mul, nI_leI, nI_ltI, nI_eqI, ck_nI, cl_nI, Nat.zero_add, Nat.add_zero, Nat.reduceAdd, Nat.reduceMul, if_pos, if_neg, if_true, if_false, c4, true_or]
      · simp (disch := omega) only [lt_s2, bd_s, bh_s, gz_0, gz_1, L0, L1, L2, L3, L4, L5, L6, L7, L8, L9, L10, L11, L12, L13, L14, L15, L16, L17, L18, L19, L20, L21, L22, L23, L24, L30, L31, L32, L36, L39, L40, L48, L57, L58, L59, L71, L72, L97, L99, L100, L122, L143, L144, L255, L320, L500, L720, L1000, L2300, L2400, nI_add, pk_mul, nI_leI, nI_ltI, nI_eqI, ck_nI, cl_nI, Nat.zero_add, Nat.add_zero, Nat.reduceAdd, Nat.reduceMul, if_pos, if_neg, if_true, if_false, c4, true_or]
    · by_cases c5 : σ 7 b = 5
      · by_cases k : σ 4 a < ti + 0
        · simp (disch := omega) only [lt_s2, bd_s, bh_s, gz_0, gz_1, L0, L1, L2, L3, L4, L5, L6, L7, L8, L9, L10, L11, L12, L13, L14, L15, L16, L17, L18, L19, L20, L21, L22, L23, L24, L30, L31, L32, L36, L39, L40, L48, L57, L58, L59, L71, L72, L97, L99, L100, L122, L143, L144, L255, L320, L500, L720, L1000, L2300, L2400, nI_add, pk_mul, nI_leI, nI_ltI, nI_eqI, ck_nI, cl_nI, Nat.zero_add, Nat.add_zero, Nat.reduceAdd, Nat.reduceMul, if_pos, if_neg, if_true, if_false, c5, or_true]
        · by_cases k2 : σ 4 a < 10
          · simp (disch := omega) only [lt_s2, bd_s, bh_s, gz_0, gz_1, L0, L1, L2, L3, L4, L5, L6, L7, L8, L9, L10, L11, L12, L13, L14, L15, L16, L17, L18, L19, L20, L21, L22, L23, L24, L30, L31, L32, L36, L39, L40, L48, L57, L58, L59, L71, L72, L97, L99, L100, L122, L143, L144, L255, L320, L500, L720, L1000, L2300, L2400, nI_add, pk_mul, nI_leI, nI_ltI, nI_eqI, ck_nI, cl_nI, Nat.zero_add, Nat.add_zero, Nat.reduceAdd, Nat.reduceMul, if_pos, if_neg, if_true, if_false, c5, or_true, true_and]
          · simp (disch := omega) only [lt_s2, bd_s, bh_s, gz_0, gz_1, L0, L1, L2, L3, L4, L5, L6, L7, L8, L9, L10, L11, L12, L13, L14, L15, L16, L17, L18, L19, L20, L21, L22, L23, L24, L30, L31, L32, L36, L39, L40, L48, L57, L58, L59, L71, L72, L97, L99, L100, L122, L143, L144, L255, L320, L500, L720, L1000, L2300, L2400, nI_add, pk_mul, nI_leI, nI_ltI, nI_eqI, ck_nI, cl_nI, Nat.zero_add, Nat.add_zero, Nat.reduceAdd, Nat.reduceMul, if_pos, if_neg, if_true, if_false, c5, or_true, true_and]
      · by_cases k : σ 4 a < ti + σ 8 b
        · simp (disch := omega) only [lt_s2, bd_s, bh_s, gz_0, gz_1, L0, L1, L2, L3, L4, L5, L6, L7, L8, L9, L10, L11, L12, L13, L14, L15, L16, L17, L18, L19, L20, L21, L22, L23, L24, L30, L31, L32, L36, L39, L40, L48, L57, L58, L59, L71, L72, L97, L99, L100, L122, L143, L144, L255, L320, L500, L720, L1000, L2300, L2400, nI_add, pk_mul, nI_leI, nI_ltI, nI_eqI, ck_nI, cl_nI, Nat.zero_add, Nat.add_zero, Nat.reduceAdd, Nat.reduceMul, if_pos, if_neg, if_true, if_false, nI_eqI, c3, c4, c5, or_self]
        · simp (disch := omega) only [lt_s2, bd_s, bh_s, gz_0, gz_1, L0, L1, L2, L3, L4, L5, L6, L7, L8, L9, L10, L11, L12, L13, L14, L15, L16, L17, L18, L19, L20, L21, L22, L23, L24, L30, L31, L32, L36, L39, L40, L48, L57, L58, L59, L71, L72, L97, L99, L100, L122, L143, L144, L255, L320, L500, L720, L1000, L2300, L2400, nI_add, pk_mul, nI_leI, nI_ltI, nI_eqI, ck_nI, cl_nI, Nat.zero_add, Nat.add_zero, Nat.reduceAdd, Nat.reduceMul, if_pos, if_neg, if_true, if_false, nI_eqI, c3, c4, c5, or_self, false_and]
theorem x_letsBy {h : AH} {q : Nat} {σ : Sg} (hC : CQ h q σ) (w : WFs σ) {b a t : Nat} (hb : b < σ 0 1) (ha : a < σ 0 0) (ht : t < 12) : f_X2_letsBy q (nI b) (nI a) (nI t) h = some (nI (ltb σ b a t (σ (2 + sd σ b) a)), h) := by
  have h6a := w.1
  have hwa := wf_a w ha
  have c2 := hC.2.2.2.2.2.2.2.2.1 a ha
  have htr := tr_lt σ b
  have hsd := sd_lt σ b
  have ec : h (q + 2) (6 * sd σ b + a) = nI (σ (2 + sd σ b) a) ∧ σ (2 + sd σ b) a ≤ 4 := by
    rcases (show sd σ b = 0 ∨ sd σ b = 1 by omega) with e | e
    · rw [e]; exact ⟨by rw [Nat.mul_zero, Nat.zero_add]; exact c2.1, hwa.1⟩
    · rw [e]; exact ⟨by rw [Nat.mul_one]; exact c2.2.1, hwa.2.1⟩
  have eb : f_X7_bitOf (nI (cfb (tr σ b))) (nI (σ (2 + sd σ b) a)) h = some (nI (lb (σ (2 + sd σ b) a) (tr σ b)), h) := by
    show some (_, h) = _
    rw [cf_bit _ htr _ (by omega)]
  unfold f_X2_letsBy ltb
  rw [x_isShut hC w ha, bd_s, x_chartersFor hC w hb, bd_s, x_sideOf hC w hb, bd_s, x_charterOf _ hsd (by omega), bd_s, ec.1, eb, bd_s, ck_nI _ ht (by decide), cl_nI (by omega), hC.2.2.2.2.2.2.2.1 t ht, x_hasRoom hC w hb ha (by have := w.2.2.2.2.2.1 t ht; omega), bd_s]
  rcases (show σ 6 a = 0 ∨ σ 6 a = 1 by have := hwa.2.2.2.2.2; omega) with e | e
  · rcases lb_01 (σ (2 + sd σ b) a) (tr σ b) with e2 | e2
    · simp (disch := omega) only [lt_s2, bd_s, bh_s, gz_0, gz_1, L0, L1, L2, L3, L4, L5, L6, L7, L8, L9, L10, L11, L12, L13, L14, L15, L16, L17, L18, L19, L20, L21, L22, L23, L24, L30, L31, L32, L36, L39, L40, L48, L57, L58, L59, L71, L72, L97, L99, L100, L122, L143, L144, L255, L320, L500, L720, L1000, L2300, L2400, nI_add, pk_mul, nI_leI, nI_ltI, nI_eqI, ck_nI, cl_nI, Nat.zero_add, Nat.add_zero, Nat.reduceAdd, Nat.reduceMul, if_pos, if_neg, if_true, if_false, e, e2]
    · simp (disch := omega) only [lt_s2, bd_s, bh_s, gz_0, gz_1, L0, L1, L2, L3, L4, L5, L6, L7, L8, L9, L10, L11, L12, L13, L14, L15, L16, L17, L18, L19, L20, L21, L22, L23, L24, L30, L31, L32, L36, L39, L40, L48, L57, L58, L59, L71, L72, L97, L99, L100, L122, L143, L144, L255, L320, L500, L720, L1000, L2300, L2400, nI_add, pk_mul, nI_leI, nI_ltI, nI_eqI, ck_nI, cl_nI, Nat.zero_add, Nat.add_zero, Nat.reduceAdd, Nat.reduceMul, if_pos, if_neg, if_true, if_false, e, e2]
      rcases rmv_01 (σ 7 b) (σ 8 b) (σ 4 a) (σ 1 t) with e3 | e3
      · rw [e3]; rfl
      · rw [e3]; rfl
  · simp (disch := omega) only [lt_s2, bd_s, bh_s, gz_0, gz_1, L0, L1, L2, L3, L4, L5, L6, L7, L8, L9, L10, L11, L12, L13, L14, L15, L16, L17, L18, L19, L20, L21, L22, L23, L24, L30, L31, L32, L36, L39, L40, L48, L57, L58, L59, L71, L72, L97, L99, L100, L122, L143, L144, L255, L320, L500, L720, L1000, L2300, L2400, nI_add, pk_mul, nI_leI, nI_ltI, nI_eqI, ck_nI, cl_nI, Nat.zero_add, Nat.add_zero, Nat.reduceAdd, Nat.reduceMul, if_pos, if_neg, if_true, if_false, e]
theorem m_letsBy {c t : Nat} (hc : c ≤ 4) (ht : t < 16) (h : AH) : f_X8_letsBy (nI c) (nI t) h = some (nI (lb c t), h) := by
  unfold f_X8_letsBy
  by_cases e : c = 4
  · subst e; rfl
  · have e1 := lb_m t ht c (by omega)
    rw [if_neg (show ¬ nI c = 4 from fun z => e ((nI_eq (by omega) (by decide)).mp z))]
    rcases lb_01 c t with e2 | e2
    · rw [e2, if_neg (fun z => by rw [decide_eq_true z, e2] at e1; exact absurd e1 (by decide))]
      rfl
    · rw [e2, if_pos (of_decide_eq_true (by rw [e1, e2]; rfl))]
      rfl
theorem m_mayBy {h : AH} {σ : Sg} (hM : MR (h 4) σ) (w : WFs σ) {b a t c : Nat} (hb : b < σ 0 1) (ha : a < σ 0 0) (ht : t < 12) (hc : c ≤ 4) : f_X8_mayBy 0 (nI b) (nI a) (nI t) (nI c) h = some (nI (ltb σ b a t c), h) := by
  have h6 := w.2.1
  have h6a := w.1
  have hw := wf_b w hb
  have hwa := wf_a w ha
  have c1 := hM.2.2.2.2.2.2 b hb
  have c2 := hM.2.2.2.2.2.1 a ha
  have htd := w.2.2.2.2.2.1 t ht
  have l8 := hw.2.2.1; have l7 := hw.2.1; have l4 := hwa.2.2.2.1
  unfold f_X8_mayBy ltb
  simp (disch := omega) only [L0, L1, L2, L3, L4, L5, L6, L7, L8, L9, L10, L11, L12, L13, L14, L15, L16, L17, L18, L19, L20, L21, L22, L23, L24, L30, L31, L32, L36, L39, L40, L48, L57, L58, L59, L71, L72, L97, L99, L100, L122, L143, L144, L255, L320, L500, L720, L1000, L2300, L2400, m_archOf, m_of, bd_s, lt_s2, nI_add, ck_nI, cl_nI, Nat.zero_add, Nat.add_zero, hM.2.2.2.2.1 t ht, m_tradesOf hM w hb, m_letsBy hc (tr_lt σ b), c1.1, c1.2.1, c2.2.2.1, c2.2.2.2.2.1, div2, sub_lt]
  rcases (show σ 6 a = 0 ∨ σ 6 a = 1 by have := hwa.2.2.2.2.2; omega) with e | e
  · rcases lb_01 c (tr σ b) with e2 | e2
    · simp (disch := omega) only [lt_s2, bd_s, bh_s, gz_0, gz_1, L0, L1, L2, L3, L4, L5, L6, L7, L8, L9, L10, L11, L12, L13, L14, L15, L16, L17, L18, L19, L20, L21, L22, L23, L24, L30, L31, L32, L36, L39, L40, L48, L57, L58, L59, L71, L72, L97, L99, L100, L122, L143, L144, L255, L320, L500, L720, L1000, L2300, L2400, nI_add, pk_mul, nI_leI, nI_ltI, nI_eqI, ck_nI, cl_nI, Nat.zero_add, Nat.add_zero, Nat.reduceAdd, Nat.reduceMul, if_pos, if_neg, if_true, if_false, e, e2]
    · simp (disch := omega) only [e, e2, nI_eqI, if_neg, if_true, if_false, if_pos]
      unfold rmv ned
      by_cases c3 : σ 7 b = 3
      · by_cases k : σ 4 a < σ 1 t + σ 8 b / 2
        · simp (disch := omega) only [lt_s2, bd_s, bh_s, gz_0, gz_1, L0, L1, L2, L3, L4, L5, L6, L7, L8, L9, L10, L11, L12, L13, L14, L15, L16, L17, L18, L19, L20, L21, L22, L23, L24, L30, L31, L32, L36, L39, L40, L48, L57, L58, L59, L71, L72, L97, L99, L100, L122, L143, L144, L255, L320, L500, L720, L1000, L2300, L2400, nI_add, pk_mul, nI_leI, nI_ltI, nI_eqI, ck_nI, cl_nI, Nat.zero_add, Nat.add_zero, Nat.reduceAdd, Nat.reduceMul, if_pos, if_neg, if_true, if_false, c3, k]
        · simp (disch := omega) only [lt_s2, bd_s, bh_s, gz_0, gz_1, L0, L1, L2, L3, L4, L5, L6, L7, L8, L9, L10, L11, L12, L13, L14, L15, L16, L17, L18, L19, L20, L21, L22, L23, L24, L30, L31, L32, L36, L39, L40, L48, L57, L58, L59, L71, L72, L97, L99, L100, L122, L143, L144, L255, L320, L500, L720, L1000, L2300, L2400, nI_add, pk_mul, nI_leI, nI_ltI, nI_eqI, ck_nI, cl_nI, Nat.zero_add, Nat.add_zero, Nat.reduceAdd, Nat.reduceMul, if_pos, if_neg, if_true, if_false, c3]
      · by_cases c4 : σ 7 b = 4
        · by_cases k : σ 4 a < σ 1 t + 0
          · simp (disch := omega) only [lt_s2, bd_s, bh_s, gz_0, gz_1, L0, L1, L2, L3, L4, L5, L6, L7, L8, L9, L10, L11, L12, L13, L14, L15, L16, L17, L18, L19, L20, L21, L22, L23, L24, L30, L31, L32, L36, L39, L40, L48, L57, L58, L59, L71, L72, L97, L99, L100, L122, L143, L144, L255, L320, L500, L720, L1000, L2300, L2400, nI_add, pk_mul, nI_leI, nI_ltI, nI_eqI, ck_nI, cl_nI, Nat.zero_add, Nat.add_zero, Nat.reduceAdd, Nat.reduceMul, if_pos, if_neg, if_true, if_false, c4, true_or]
          · simp (disch := omega) only [lt_s2, bd_s, bh_s, gz_0, gz_1, L0, L1, L2, L3, L4, L5, L6, L7, L8, L9, L10, L11, L12, L13, L14, L15, L16, L17, L18, L19, L20, L21, L22, L23, L24, L30, L31, L32, L36, L39, L40, L48, L57, L58, L59, L71, L72, L97, L99, L100, L122, L143, L144, L255, L320, L500, L720, L1000, L2300, L2400, nI_add, pk_mul, nI_leI, nI_ltI, nI_eqI, ck_nI, cl_nI, Nat.zero_add, Nat.add_zero, Nat.reduceAdd, Nat.reduceMul, if_pos, if_neg, if_true, if_false, c4, true_or]
        · by_cases c5 : σ 7 b = 5
          · by_cases k : σ 4 a < σ 1 t + 0
            · simp (disch := omega) only [lt_s2, bd_s, bh_s, gz_0, gz_1, L0, L1, L2, L3, L4, L5, L6, L7, L8, L9, L10, L11, L12, L13, L14, L15, L16, L17, L18, L19, L20, L21, L22, L23, L24, L30, L31, L32, L36, L39, L40, L48, L57, L58, L59, L71, L72, L97, L99, L100, L122, L143, L144, L255, L320, L500, L720, L1000, L2300, L2400, nI_add, pk_mul, nI_leI, nI_ltI, nI_eqI, ck_nI, cl_nI, Nat.zero_add, Nat.add_zero, Nat.reduceAdd, Nat.reduceMul, if_pos, if_neg, if_true, if_false, c5, or_true]
            · by_cases k2 : σ 4 a < 10
              · simp (disch := omega) only [lt_s2, bd_s, bh_s, gz_0, gz_1, L0, L1, L2, L3, L4, L5, L6, L7, L8, L9, L10, L11, L12, L13, L14, L15, L16, L17, L18, L19, L20, L21, L22, L23, L24, L30, L31, L32, L36, L39, L40, L48, L57, L58, L59, L71, L72, L97, L99, L100, L122, L143, L144, L255, L320, L500, L720, L1000, L2300, L2400, nI_add, pk_mul, nI_leI, nI_ltI, nI_eqI, ck_nI, cl_nI, Nat.zero_add, Nat.add_zero, Nat.reduceAdd, Nat.reduceMul, if_pos, if_neg, if_true, if_false, c5, or_true, true_and]
              · simp (disch := omega) only [lt_s2, bd_s, bh_s, gz_0, gz_1, L0, L1, L2, L3, L4, L5, L6, L7, L8, L9, L10, L11, L12, L13, L14, L15, L16, L17, L18, L19, L20, L21, L22, L23, L24, L30, L31, L32, L36, L39, L40, L48, L57, L58, L59, L71, L72, L97, L99, L100, L122, L143, L144, L255, L320, L500, L720, L1000, L2300, L2400, nI_add, pk_mul, nI_leI, nI_ltI, nI_eqI, ck_nI, cl_nI, Nat.zero_add, Nat.add_zero, Nat.reduceAdd, Nat.reduceMul, if_pos, if_neg, if_true, if_false, c5, or_true, true_and]
          · by_cases k : σ 4 a < σ 1 t + σ 8 b
            · simp (disch := omega) only [lt_s2, bd_s, bh_s, gz_0, gz_1, L0, L1, L2, L3, L4, L5, L6, L7, L8, L9, L10, L11, L12, L13, L14, L15, L16, L17, L18, L19, L20, L21, L22, L23, L24, L30, L31, L32, L36, L39, L40, L48, L57, L58, L59, L71, L72, L97, L99, L100, L122, L143, L144, L255, L320, L500, L720, L1000, L2300, L2400, nI_add, pk_mul, nI_leI, nI_ltI, nI_eqI, ck_nI, cl_nI, Nat.zero_add, Nat.add_zero, Nat.reduceAdd, Nat.reduceMul, if_pos, if_neg, if_true, if_false, nI_eqI, c3, c4, c5, or_self]
            · simp (disch := omega) only [lt_s2, bd_s, bh_s, gz_0, gz_1, L0, L1, L2, L3, L4, L5, L6, L7, L8, L9, L10, L11, L12, L13, L14, L15, L16, L17, L18, L19, L20, L21, L22, L23, L24, L30, L31, L32, L36, L39, L40, L48, L57, L58, L59, L71, L72, L97, L99, L100, L122, L143, L144, L255, L320, L500, L720, L1000, L2300, L2400, nI_add, pk_mul, nI_leI, nI_ltI, nI_eqI, ck_nI, cl_nI, Nat.zero_add, Nat.add_zero, Nat.reduceAdd, Nat.reduceMul, if_pos, if_neg, if_true, if_false, nI_eqI, c3, c4, c5, or_self, false_and]
  · simp (disch := omega) only [lt_s2, bd_s, bh_s, gz_0, gz_1, L0, L1, L2, L3, L4, L5, L6, L7, L8, L9, L10, L11, L12, L13, L14, L15, L16, L17, L18, L19, L20, L21, L22, L23, L24, L30, L31, L32, L36, L39, L40, L48, L57, L58, L59, L71, L72, L97, L99, L100, L122, L143, L144, L255, L320, L500, L720, L1000, L2300, L2400, nI_add, pk_mul, nI_leI, nI_ltI, nI_eqI, ck_nI, cl_nI, Nat.zero_add, Nat.add_zero, Nat.reduceAdd, Nat.reduceMul, if_pos, if_neg, if_true, if_false, e]
theorem gz_nI {α : Type} {n : Nat} (h : n = 0 ∨ n = 1) (K : Option α) : gz (nI n) K = K := by
  rcases h with rfl | rfl <;> rfl
theorem m_mayGo {h : AH} {σ : Sg} (hM : MR (h 4) σ) (w : WFs σ) {b a t : Nat} (hb : b < σ 0 1) (ha : a < σ 0 0) (ht : t < 12) : f_X8_mayGo 0 (nI b) (nI a) (nI t) h = some (nI (ltb σ b a t (σ (2 + sd σ b) a)), h) := by
  have h6a := w.1
  have hwa := wf_a w ha
  have c2 := hM.2.2.2.2.2.1 a ha
  have hsd := sd_lt σ b
  have ec : h 4 (16 + 7 * a + sd σ b) = nI (σ (2 + sd σ b) a) ∧ σ (2 + sd σ b) a ≤ 4 := by
    rcases (show sd σ b = 0 ∨ sd σ b = 1 by omega) with e | e
    · rw [e]; exact ⟨c2.1, hwa.1⟩
    · rw [e]; exact ⟨c2.2.1, hwa.2.1⟩
  unfold f_X8_mayGo
  rw [m_sideOf hM w hb, bd_s, m_archOf _ (by omega) (by omega), bd_s, ec.1, m_mayBy hM w hb ha ht ec.2, bd_s, gz_nI (ltb_01 _ _ _ _ _)]
theorem x_isHour (x : Int32) (h : AH) : f_X7_isHour x h = some (rg x 12, h) := by
  unfold f_X7_isHour
  rw [L12, rg_le, rg_v]
theorem m_isHour (x : Int32) (h : AH) : f_X8_isHour x h = some (rg x 12, h) := by
  unfold f_X8_isHour
  rw [m_in11, bd_s, gz_rg]
theorem x_mayLoop {h : AH} {σ : Sg} (hC : CQ h 17 σ) (w : WFs σ) {b t : Nat} (hb : b < σ 0 1) (ht : t < 12) : ∀ (k fuel a : Nat), a + k = σ 0 0 → k < fuel → f_X7_may_26 0 fuel (nI b) (nI t) (nI (bsum (fun a => ltb σ b a t (σ (2 + sd σ b) a)) a)) (nI a) h = some (nI (bsum (fun a => ltb σ b a t (σ (2 + sd σ b) a)) (σ 0 0)), h) := by
  have h6 := w.1
  intro k
  induction k with
  | zero =>
    intro fuel a e hf
    obtain ⟨f, rfl⟩ : ∃ f, fuel = f + 1 := ⟨fuel - 1, by omega⟩
    have : a = σ 0 0 := by omega
    subst this
    rw [f_X7_may_26, Nat.zero_add, hC.2.1]
    simp (disch := omega) only [lt_s2, bd_s, bh_s, gz_0, gz_1, L0, L1, L2, L3, L4, L5, L6, L7, L8, L9, L10, L11, L12, L13, L14, L15, L16, L17, L18, L19, L20, L21, L22, L23, L24, L30, L31, L32, L36, L39, L40, L48, L57, L58, L59, L71, L72, L97, L99, L100, L122, L143, L144, L255, L320, L500, L720, L1000, L2300, L2400, nI_add, pk_mul, nI_leI, nI_ltI, nI_eqI, ck_nI, cl_nI, Nat.zero_add, Nat.add_zero, Nat.reduceAdd, Nat.reduceMul, if_pos, if_neg, if_true, if_false]
  | succ k ih =>
    intro fuel a e hf
    obtain ⟨f, rfl⟩ : ∃ f, fuel = f + 1 := ⟨fuel - 1, by omega⟩
    have ih' := ih f (a + 1) (by omega) (by omega)
    have hl := bs_lt (f := fun a => ltb σ b a t (σ (2 + sd σ b) a)) (n := a) (fun i _ => by have := ltb_01 σ b i t (σ (2 + sd σ b) i); omega)
    rw [f_X7_may_26, Nat.zero_add, hC.2.1, x_letsBy hC w hb (by omega) ht, bd_s]
    simp only [bsum] at ih'
    rcases ltb_01 σ b a t (σ (2 + sd σ b) a) with e2 | e2
    · rw [e2] at ih' ⊢
      simp (disch := omega) only [lt_s2, bd_s, bh_s, gz_0, gz_1, L0, L1, L2, L3, L4, L5, L6, L7, L8, L9, L10, L11, L12, L13, L14, L15, L16, L17, L18, L19, L20, L21, L22, L23, L24, L30, L31, L32, L36, L39, L40, L48, L57, L58, L59, L71, L72, L97, L99, L100, L122, L143, L144, L255, L320, L500, L720, L1000, L2300, L2400, nI_add, pk_mul, nI_leI, nI_ltI, nI_eqI, ck_nI, cl_nI, Nat.zero_add, Nat.add_zero, Nat.reduceAdd, Nat.reduceMul, if_pos, if_neg, if_true, if_false, x_withNew (show a < 6 by omega) hl]
      exact ih'
    · rw [e2] at ih' ⊢
      simp (disch := omega) only [lt_s2, bd_s, bh_s, gz_0, gz_1, L0, L1, L2, L3, L4, L5, L6, L7, L8, L9, L10, L11, L12, L13, L14, L15, L16, L17, L18, L19, L20, L21, L22, L23, L24, L30, L31, L32, L36, L39, L40, L48, L57, L58, L59, L71, L72, L97, L99, L100, L122, L143, L144, L255, L320, L500, L720, L1000, L2300, L2400, nI_add, pk_mul, nI_leI, nI_ltI, nI_eqI, ck_nI, cl_nI, Nat.zero_add, Nat.add_zero, Nat.reduceAdd, Nat.reduceMul, if_pos, if_neg, if_true, if_false, x_withNew (show a < 6 by omega) hl]
      exact ih'
theorem m_mayLoop {h : AH} {σ : Sg} (hM : MR (h 4) σ) (w : WFs σ) {b t : Nat} (hb : b < σ 0 1) (ht : t < 12) : ∀ (k fuel a : Nat), a + k = σ 0 0 → k < fuel → f_X8_may_28 0 fuel (nI b) (nI t) (nI (bsum (fun a => ltb σ b a t (σ (2 + sd σ b) a)) a)) (nI a) h = some (nI (bsum (fun a => ltb σ b a t (σ (2 + sd σ b) a)) (σ 0 0)), h) := by
  have h6 := w.1
  intro k
  induction k with
  | zero =>
    intro fuel a e hf
    obtain ⟨f, rfl⟩ : ∃ f, fuel = f + 1 := ⟨fuel - 1, by omega⟩
    have : a = σ 0 0 := by omega
    subst this
    rw [f_X8_may_28]
    simp (disch := omega) only [lt_s2, bd_s, bh_s, gz_0, gz_1, L0, L1, L2, L3, L4, L5, L6, L7, L8, L9, L10, L11, L12, L13, L14, L15, L16, L17, L18, L19, L20, L21, L22, L23, L24, L30, L31, L32, L36, L39, L40, L48, L57, L58, L59, L71, L72, L97, L99, L100, L122, L143, L144, L255, L320, L500, L720, L1000, L2300, L2400, nI_add, pk_mul, nI_leI, nI_ltI, nI_eqI, ck_nI, cl_nI, Nat.zero_add, Nat.add_zero, Nat.reduceAdd, Nat.reduceMul, if_pos, if_neg, if_true, if_false, hM.1]
  | succ k ih =>
    intro fuel a e hf
    obtain ⟨f, rfl⟩ : ∃ f, fuel = f + 1 := ⟨fuel - 1, by omega⟩
    have ih' := ih f (a + 1) (by omega) (by omega)
    have hl := bs_lt (f := fun a => ltb σ b a t (σ (2 + sd σ b) a)) (n := a) (fun i _ => by have := ltb_01 σ b i t (σ (2 + sd σ b) i); omega)
    rw [f_X8_may_28, or_0, or_new a (by omega) _ hl]
    simp only [bsum] at ih'
    rcases ltb_01 σ b a t (σ (2 + sd σ b) a) with e2 | e2
    · rw [e2] at ih'
      simp (disch := omega) only [lt_s2, bd_s, bh_s, gz_0, gz_1, L0, L1, L2, L3, L4, L5, L6, L7, L8, L9, L10, L11, L12, L13, L14, L15, L16, L17, L18, L19, L20, L21, L22, L23, L24, L30, L31, L32, L36, L39, L40, L48, L57, L58, L59, L71, L72, L97, L99, L100, L122, L143, L144, L255, L320, L500, L720, L1000, L2300, L2400, nI_add, pk_mul, nI_leI, nI_ltI, nI_eqI, ck_nI, cl_nI, Nat.zero_add, Nat.add_zero, Nat.reduceAdd, Nat.reduceMul, if_pos, if_neg, if_true, if_false, hM.1, m_mayGo hM w hb (show a < σ 0 0 by omega) ht, e2]
      simpa using ih'
    · rw [e2] at ih'
      simp (disch := omega) only [lt_s2, bd_s, bh_s, gz_0, gz_1, L0, L1, L2, L3, L4, L5, L6, L7, L8, L9, L10, L11, L12, L13, L14, L15, L16, L17, L18, L19, L20, L21, L22, L23, L24, L30, L31, L32, L36, L39, L40, L48, L57, L58, L59, L71, L72, L97, L99, L100, L122, L143, L144, L255, L320, L500, L720, L1000, L2300, L2400, nI_add, pk_mul, nI_leI, nI_ltI, nI_eqI, ck_nI, cl_nI, Nat.zero_add, Nat.add_zero, Nat.reduceAdd, Nat.reduceMul, if_pos, if_neg, if_true, if_false, hM.1, m_mayGo hM w hb (show a < σ 0 0 by omega) ht, e2]
      simpa using ih'
theorem ok_may (a0 a1 : Int32) : OK2 Rel (fun h => f_X7_may 0 a0 a1 h) (fun h => f_X8_may 0 a0 a1 h) := by
  intro hx hm hR
  show ∃ r hx2 hm2, f_X7_may 0 a0 a1 hx = some (r, hx2) ∧ f_X8_may 0 a0 a1 hm = some (r, hm2) ∧ Rel hx2 hm2
  have hR1 := rel_thrown hR
  unfold f_X7_may f_X8_may
  rw [lt_s2]
  generalize hset hm 0 0 0 = hm1 at hR1 ⊢
  obtain ⟨σ, w, hC, hM, -, -⟩ := hR1.2.2.2.1
  have hC : CQ hx 17 σ := hC
  have h6 := w.2.1
  have h6a := w.1
  simp only [Nat.zero_add, x_isBoat hC, m_isBoat hM w, bd_s, x_isHour, m_isHour]
  rcases rg_cases a0 (n := σ 0 1) (by omega) with h0 | ⟨b, hb, rfl⟩
  · simp only [h0, if_true]
    exact ⟨_, _, _, rfl, rfl, hR1⟩
  rcases rg_cases a1 (n := 12) (by omega) with h0 | ⟨t, ht, rfl⟩
  · simp only [h0, if_true, rg_in hb (show σ 0 1 < 2 ^ 31 by omega), if_neg n10]
    exact ⟨_, _, _, rfl, rfl, hR1⟩
  simp only [rg_in hb (show σ 0 1 < 2 ^ 31 by omega), rg_in ht (by decide), if_neg n10]
  have e1 := x_mayLoop hC w hb ht (σ 0 0) fu 0 (by omega) (fu_ge _ (by omega))
  have e2 := m_mayLoop hM w hb ht (σ 0 0) fu 0 (by omega) (fu_ge _ (by omega))
  rw [show (0 : Int32) = nI 0 from rfl]
  exact ⟨_, _, _, e1, e2, hR1⟩
