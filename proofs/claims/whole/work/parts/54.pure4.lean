theorem fu_s (n : Nat) (h : n ≤ 100000) : ∃ k, fu = k + n := ⟨fu - n, by have := Classical.choose_spec fu_ex; have e : fu = Classical.choose fu_ex := rfl; omega⟩
def al (σ : Sg) (b : Nat) : Nat := σ 9 (4 * b) + σ 9 (4 * b + 1) + σ 9 (4 * b + 2) + σ 9 (4 * b + 3)
/-- 1 where there is a load -/
def sg (n : Nat) : Nat := if n = 0 then 0 else 1
theorem sg_lt (n : Nat) : sg n < 2 := by unfold sg; split <;> decide
def tr (σ : Sg) (b : Nat) : Nat := sg (σ 9 (4 * b)) + sg (σ 9 (4 * b + 1)) * 2 + sg (σ 9 (4 * b + 2)) * 4 + sg (σ 9 (4 * b + 3)) * 8
def mxd (n : Nat) : Nat := if n % 2 + n / 2 % 2 + n / 4 % 2 + n / 8 % 2 ≤ 1 then 0 else 1
def mx (σ : Sg) (b : Nat) : Nat := mxd (tr σ b)
theorem tr_lt (σ : Sg) (b : Nat) : tr σ b < 16 := by
  have := sg_lt (σ 9 (4 * b)); have := sg_lt (σ 9 (4 * b + 1)); have := sg_lt (σ 9 (4 * b + 2)); have := sg_lt (σ 9 (4 * b + 3))
  unfold tr
  omega
def pt (σ : Sg) (b : Nat) : Nat := al σ b - max (max (max (max 0 (σ 9 (4 * b))) (σ 9 (4 * b + 1))) (σ 9 (4 * b + 2))) (σ 9 (4 * b + 3))
theorem ld_x {h : AH} {q : Nat} {σ : Sg} (hC : CQ h q σ) {b t : Nat} (hb : b < σ 0 1) (h6 : σ 0 1 ≤ 6) (ht : t < 4) : f_X2_loadOf q (nI b) (nI t) h = some (nI (σ 9 (4 * b + t)), h) := by
  rw [x_loadOf h (by omega) ht, (hC.2.2.2.2.2.2.2.2.2.1 b hb).2.2 t ht]
theorem ld_m {h : AH} {σ : Sg} (hM : MR (h 4) σ) {b t : Nat} (hb : b < σ 0 1) (h6 : σ 0 1 ≤ 6) (ht : t < 4) : f_X8_of 0 (nI b) (nI (2 + t)) h = some (nI (σ 9 (4 * b + t)), h) := by
  rw [m_of h (by omega) (by omega), ← (hM.2.2.2.2.2.2 b hb).2.2.1 t ht, ← Nat.add_assoc]
theorem x_allOf {h : AH} {q : Nat} {σ : Sg} (hC : CQ h q σ) (w : WFs σ) {b : Nat} (hb : b < σ 0 1) : f_X2_allOf q (nI b) h = some (nI (al σ b), h) := by
  have h6 := w.2.1
  obtain ⟨k, hk⟩ := fu_s 5 (by decide)
  unfold f_X2_allOf
  rw [hk, show k + 5 = k + 1 + 1 + 1 + 1 + 1 from rfl]
  simp (disch := omega) only [f_X2_allOf_4, lt_s2, bd_s, bh_s, gz_0, gz_1, L0, L1, L2, L3, L4, L5, L6, L7, L8, L9, L10, L11, L12, L13, L14, L15, L16, L17, L18, L19, L20, L21, L22, L23, L24, L30, L31, L32, L36, L39, L40, L48, L57, L58, L59, L71, L72, L97, L99, L100, L122, L143, L144, L255, L320, L500, L720, L1000, L2300, L2400, nI_add, pk_mul, nI_leI, nI_ltI, nI_eqI, ck_nI, cl_nI, Nat.zero_add, Nat.add_zero, Nat.reduceAdd, Nat.reduceMul, if_pos, if_neg, if_true, if_false, ld_x hC hb h6]
  rfl
theorem m_allOf {h : AH} {σ : Sg} (hM : MR (h 4) σ) (w : WFs σ) {b : Nat} (hb : b < σ 0 1) : f_X8_allOf 0 (nI b) h = some (nI (al σ b), h) := by
  have h6 := w.2.1
  obtain ⟨k, hk⟩ := fu_s 5 (by decide)
  have e0 := ld_m hM hb h6 (show 0 < 4 by decide)
  have e1 := ld_m hM hb h6 (show 1 < 4 by decide)
  have e2 := ld_m hM hb h6 (show 2 < 4 by decide)
  have e3 := ld_m hM hb h6 (show 3 < 4 by decide)
  simp only [Nat.reduceAdd, Nat.add_zero] at e0 e1 e2 e3
  unfold f_X8_allOf
  rw [hk, show k + 5 = k + 1 + 1 + 1 + 1 + 1 from rfl]
  simp (disch := omega) only [f_X8_allOf_4, lt_s2, bd_s, bh_s, gz_0, gz_1, L0, L1, L2, L3, L4, L5, L6, L7, L8, L9, L10, L11, L12, L13, L14, L15, L16, L17, L18, L19, L20, L21, L22, L23, L24, L30, L31, L32, L36, L39, L40, L48, L57, L58, L59, L71, L72, L97, L99, L100, L122, L143, L144, L255, L320, L500, L720, L1000, L2300, L2400, nI_add, pk_mul, nI_leI, nI_ltI, nI_eqI, ck_nI, cl_nI, Nat.zero_add, Nat.add_zero, Nat.reduceAdd, Nat.reduceMul, if_pos, if_neg, if_true, if_false, e0, e1, e2, e3]
  rfl
theorem wb_new : ∀ j, j < 6 → ∀ s, s < 2 ^ j → ∀ v, v < 2 → ((nI s &&& ((1 <<< (nI j &&& 31)) ^^^ (-1))) ||| (nI v <<< (nI j &&& 31))) = nI (s + v * 2 ^ j) := by decide +kernel
theorem or_new : ∀ j, j < 6 → ∀ s, s < 2 ^ j → (nI s ||| ((1 : Int32) <<< (nI j &&& 31))) = nI (s + 2 ^ j) := by decide +kernel
theorem or_0 (x : Int32) : x ||| 0 = x := by simp
theorem x_withNew {j s v : Nat} (hj : j < 6) (hs : s < 2 ^ j) (hv : v < 2) (h : AH) : f_X7_withBit (nI s) (nI j) (nI v) h = some (nI (s + v * 2 ^ j), h) := by
  show some (_, h) = _
  rw [wb_new j hj s hs v hv]
theorem x_trStep {h : AH} {q : Nat} {σ : Sg} (hC : CQ h q σ) {b t s n : Nat} (hb : b < σ 0 1) (h6 : σ 0 1 ≤ 6) (h9 : σ 9 (4 * b + t) ≤ 9) (ht : t < 4) (hs : s < 2 ^ t) : f_X2_tradesOf_4 q (n + 1) (nI b) (nI s) (nI t) h = f_X2_tradesOf_4 q n (nI b) (nI (s + sg (σ 9 (4 * b + t)) * 2 ^ t)) (nI (t + 1)) h := by
  rw [f_X2_tradesOf_4]
  simp (disch := omega) only [lt_s2, bd_s, bh_s, gz_0, gz_1, L0, L1, L2, L3, L4, L5, L6, L7, L8, L9, L10, L11, L12, L13, L14, L15, L16, L17, L18, L19, L20, L21, L22, L23, L24, L30, L31, L32, L36, L39, L40, L48, L57, L58, L59, L71, L72, L97, L99, L100, L122, L143, L144, L255, L320, L500, L720, L1000, L2300, L2400, nI_add, pk_mul, nI_leI, nI_ltI, nI_eqI, ck_nI, cl_nI, Nat.zero_add, Nat.add_zero, Nat.reduceAdd, Nat.reduceMul, if_pos, if_neg, if_true, if_false, ld_x hC hb h6]
  by_cases e : σ 9 (4 * b + t) = 0
  · simp (disch := omega) only [e, x_withNew, if_pos, Nat.le_refl, sg, lt_s2, bd_s, bh_s, gz_0, gz_1, L0, L1, L2, L3, L4, L5, L6, L7, L8, L9, L10, L11, L12, L13, L14, L15, L16, L17, L18, L19, L20, L21, L22, L23, L24, L30, L31, L32, L36, L39, L40, L48, L57, L58, L59, L71, L72, L97, L99, L100, L122, L143, L144, L255, L320, L500, L720, L1000, L2300, L2400, nI_add, pk_mul, nI_leI, nI_ltI, nI_eqI, ck_nI, cl_nI, Nat.zero_add, Nat.add_zero, Nat.reduceAdd, Nat.reduceMul, if_pos, if_neg, if_true, if_false]
  · simp (disch := omega) only [x_withNew, if_neg, sg, lt_s2, bd_s, bh_s, gz_0, gz_1, L0, L1, L2, L3, L4, L5, L6, L7, L8, L9, L10, L11, L12, L13, L14, L15, L16, L17, L18, L19, L20, L21, L22, L23, L24, L30, L31, L32, L36, L39, L40, L48, L57, L58, L59, L71, L72, L97, L99, L100, L122, L143, L144, L255, L320, L500, L720, L1000, L2300, L2400, nI_add, pk_mul, nI_leI, nI_ltI, nI_eqI, ck_nI, cl_nI, Nat.zero_add, Nat.add_zero, Nat.reduceAdd, Nat.reduceMul, if_pos, if_neg, if_true, if_false]
theorem x_tradesOf {h : AH} {q : Nat} {σ : Sg} (hC : CQ h q σ) (w : WFs σ) {b : Nat} (hb : b < σ 0 1) : f_X2_tradesOf q (nI b) h = some (nI (tr σ b), h) := by
  have h6 := w.2.1
  have h9 := (wf_b w hb).2.2.2.1
  obtain ⟨k, hk⟩ := fu_s 5 (by decide)
  have s0 := sg_lt (σ 9 (4 * b)); have s1 := sg_lt (σ 9 (4 * b + 1)); have s2 := sg_lt (σ 9 (4 * b + 2))
  unfold f_X2_tradesOf
  rw [hk, show k + 5 = k + 1 + 1 + 1 + 1 + 1 from rfl, L0, x_trStep hC hb h6 (h9 0 (by decide)) (by decide) (by decide), x_trStep hC hb h6 (h9 1 (by decide)) (by decide) (by simp; omega), x_trStep hC hb h6 (h9 2 (by decide)) (by decide) (by simp; omega), x_trStep hC hb h6 (h9 3 (by decide)) (by decide) (by simp; omega), f_X2_tradesOf_4]
  simp (disch := omega) only [lt_s2, bd_s, bh_s, gz_0, gz_1, L0, L1, L2, L3, L4, L5, L6, L7, L8, L9, L10, L11, L12, L13, L14, L15, L16, L17, L18, L19, L20, L21, L22, L23, L24, L30, L31, L32, L36, L39, L40, L48, L57, L58, L59, L71, L72, L97, L99, L100, L122, L143, L144, L255, L320, L500, L720, L1000, L2300, L2400, nI_add, pk_mul, nI_leI, nI_ltI, nI_eqI, ck_nI, cl_nI, Nat.zero_add, Nat.add_zero, Nat.reduceAdd, Nat.reduceMul, if_pos, if_neg, if_true, if_false]
  simp [tr]
theorem m_trStep {h : AH} {σ : Sg} (hM : MR (h 4) σ) {b t s n : Nat} (hb : b < σ 0 1) (h6 : σ 0 1 ≤ 6) (h9 : σ 9 (4 * b + t) ≤ 9) (ht : t < 4) (hs : s < 2 ^ t) : f_X8_tradesOf_4 0 (n + 1) (nI b) (nI s) (nI t) h = f_X8_tradesOf_4 0 n (nI b) (nI (s + sg (σ 9 (4 * b + t)) * 2 ^ t)) (nI (t + 1)) h := by
  rw [f_X8_tradesOf_4, or_0, or_new t (by omega) s hs]
  simp (disch := omega) only [lt_s2, bd_s, bh_s, gz_0, gz_1, L0, L1, L2, L3, L4, L5, L6, L7, L8, L9, L10, L11, L12, L13, L14, L15, L16, L17, L18, L19, L20, L21, L22, L23, L24, L30, L31, L32, L36, L39, L40, L48, L57, L58, L59, L71, L72, L97, L99, L100, L122, L143, L144, L255, L320, L500, L720, L1000, L2300, L2400, nI_add, pk_mul, nI_leI, nI_ltI, nI_eqI, ck_nI, cl_nI, Nat.zero_add, Nat.add_zero, Nat.reduceAdd, Nat.reduceMul, if_pos, if_neg, if_true, if_false, ld_m hM hb h6]
  by_cases e : σ 9 (4 * b + t) = 0
  · simp (disch := omega) only [e, if_pos, Nat.le_refl, sg, lt_s2, bd_s, bh_s, gz_0, gz_1, L0, L1, L2, L3, L4, L5, L6, L7, L8, L9, L10, L11, L12, L13, L14, L15, L16, L17, L18, L19, L20, L21, L22, L23, L24, L30, L31, L32, L36, L39, L40, L48, L57, L58, L59, L71, L72, L97, L99, L100, L122, L143, L144, L255, L320, L500, L720, L1000, L2300, L2400, nI_add, pk_mul, nI_leI, nI_ltI, nI_eqI, ck_nI, cl_nI, Nat.zero_add, Nat.add_zero, Nat.reduceAdd, Nat.reduceMul, if_pos, if_neg, if_true, if_false, Nat.zero_mul]
  · simp (disch := omega) only [if_neg, sg, lt_s2, bd_s, bh_s, gz_0, gz_1, L0, L1, L2, L3, L4, L5, L6, L7, L8, L9, L10, L11, L12, L13, L14, L15, L16, L17, L18, L19, L20, L21, L22, L23, L24, L30, L31, L32, L36, L39, L40, L48, L57, L58, L59, L71, L72, L97, L99, L100, L122, L143, L144, L255, L320, L500, L720, L1000, L2300, L2400, nI_add, pk_mul, nI_leI, nI_ltI, nI_eqI, ck_nI, cl_nI, Nat.zero_add, Nat.add_zero, Nat.reduceAdd, Nat.reduceMul, if_pos, if_neg, if_true, if_false, Nat.one_mul]
theorem m_tradesOf {h : AH} {σ : Sg} (hM : MR (h 4) σ) (w : WFs σ) {b : Nat} (hb : b < σ 0 1) : f_X8_tradesOf 0 (nI b) h = some (nI (tr σ b), h) := by
  have h6 := w.2.1
  have h9 := (wf_b w hb).2.2.2.1
  obtain ⟨k, hk⟩ := fu_s 5 (by decide)
  have s0 := sg_lt (σ 9 (4 * b)); have s1 := sg_lt (σ 9 (4 * b + 1)); have s2 := sg_lt (σ 9 (4 * b + 2))
  unfold f_X8_tradesOf
  rw [hk, show k + 5 = k + 1 + 1 + 1 + 1 + 1 from rfl, L0, m_trStep hM hb h6 (h9 0 (by decide)) (by decide) (by decide), m_trStep hM hb h6 (h9 1 (by decide)) (by decide) (by simp; omega), m_trStep hM hb h6 (h9 2 (by decide)) (by decide) (by simp; omega), m_trStep hM hb h6 (h9 3 (by decide)) (by decide) (by simp; omega), f_X8_tradesOf_4]
  simp (disch := omega) only [lt_s2, bd_s, bh_s, gz_0, gz_1, L0, L1, L2, L3, L4, L5, L6, L7, L8, L9, L10, L11, L12, L13, L14, L15, L16, L17, L18, L19, L20, L21, L22, L23, L24, L30, L31, L32, L36, L39, L40, L48, L57, L58, L59, L71, L72, L97, L99, L100, L122, L143, L144, L255, L320, L500, L720, L1000, L2300, L2400, nI_add, pk_mul, nI_leI, nI_ltI, nI_eqI, ck_nI, cl_nI, Nat.zero_add, Nat.add_zero, Nat.reduceAdd, Nat.reduceMul, if_pos, if_neg, if_true, if_false]
  simp [tr]
def pop6 (s : Nat) : Nat := s % 2 + s / 2 % 2 + s / 4 % 2 + s / 8 % 2 + s / 16 % 2 + s / 32 % 2
def bcv (x0 : Int32) : Int32 :=
  let v_1 := (x0 - ((((x0 : Int32).toUInt32 >>> ((1 : Int32).toUInt32 &&& Int32.toUInt32 31)).toInt32) &&& 1431655765))
  let v_2 := ((v_1 &&& 858993459) + ((((v_1 : Int32).toUInt32 >>> ((2 : Int32).toUInt32 &&& Int32.toUInt32 31)).toInt32) &&& 858993459))
  let v_3 := ((v_2 + (((v_2 : Int32).toUInt32 >>> ((4 : Int32).toUInt32 &&& Int32.toUInt32 31)).toInt32)) &&& 252645135)
  let v_4 := (v_3 + (((v_3 : Int32).toUInt32 >>> ((8 : Int32).toUInt32 &&& Int32.toUInt32 31)).toInt32))
  let v_5 := (v_4 + (((v_4 : Int32).toUInt32 >>> ((16 : Int32).toUInt32 &&& Int32.toUInt32 31)).toInt32))
  (v_5 &&& 63)
theorem bc_64 : ∀ s, s < 64 → bcv (nI s) = nI (pop6 s) := by decide +kernel
theorem x_bitCount {s : Nat} (hs : s < 64) (h : AH) : f_J6_bitCount_0f7a4 (nI s) h = some (nI (pop6 s), h) := by
  show some (bcv (nI s), h) = _
  rw [bc_64 s hs]
theorem mx_x : ∀ s, s < 16 → (nI (pop6 s) ≤ 1) = (mxd s = 0) := by
  have h : ∀ s, s < 16 → decide (nI (pop6 s) ≤ 1) = decide (mxd s = 0) := by decide +kernel
  intro s hs
  have := h s hs
  apply propext
  constructor
  · intro q; exact of_decide_eq_true (by rw [← this]; exact decide_eq_true q)
  · intro q; exact of_decide_eq_true (by rw [this]; exact decide_eq_true q)
theorem mx_m : ∀ s, s < 16 → ((nI s &&& (nI s - 1)) = 0) = (mxd s = 0) := by
  have h : ∀ s, s < 16 → decide ((nI s &&& (nI s - 1)) = 0) = decide (mxd s = 0) := by decide +kernel
  intro s hs
  have := h s hs
  apply propext
  constructor
  · intro q; exact of_decide_eq_true (by rw [← this]; exact decide_eq_true q)
  · intro q; exact of_decide_eq_true (by rw [this]; exact decide_eq_true q)
theorem mxd_01 (n : Nat) : mxd n = 0 ∨ mxd n = 1 := by unfold mxd; split <;> simp
theorem x_isMixed {h : AH} {q : Nat} {σ : Sg} (hC : CQ h q σ) (w : WFs σ) {b : Nat} (hb : b < σ 0 1) : f_X2_isMixed q (nI b) h = some (nI (mx σ b), h) := by
  have ht := tr_lt σ b
  unfold f_X2_isMixed
  rw [x_tradesOf hC w hb, bd_s, x_bitCount (by omega), bd_s]
  simp only [mx_x _ ht, mx]
  rcases mxd_01 (tr σ b) with e | e
  · rw [e, if_pos rfl]; rfl
  · rw [e, if_neg (by decide)]; rfl
theorem m_isMixed {h : AH} {σ : Sg} (hM : MR (h 4) σ) (w : WFs σ) {b : Nat} (hb : b < σ 0 1) : f_X8_isMixed 0 (nI b) h = some (nI (mx σ b), h) := by
  have ht := tr_lt σ b
  unfold f_X8_isMixed
  rw [m_tradesOf hM w hb, bd_s]
  simp only [mx_m _ ht, mx]
  rcases mxd_01 (tr σ b) with e | e
  · rw [e, if_pos rfl]; rfl
  · rw [e, if_neg (by decide)]; rfl
theorem imax {a b : Nat} : (if a < b then nI b else nI a) = nI (max a b) := by
  by_cases h : a < b
  · rw [if_pos h, Nat.max_eq_right (by omega)]
  · rw [if_neg h, Nat.max_eq_left (by omega)]
theorem x_portersOf {h : AH} {q : Nat} {σ : Sg} (hC : CQ h q σ) (w : WFs σ) {b : Nat} (hb : b < σ 0 1) : f_X2_portersOf q (nI b) h = some (nI (pt σ b), h) := by
  have h6 := w.2.1
  have h9 := (wf_b w hb).2.2.2.1
  have a0 := h9 0 (by decide); have a1 := h9 1 (by decide); have a2 := h9 2 (by decide); have a3 := h9 3 (by decide)
  have st : ∀ (n m t : Nat), t < 4 → m ≤ 9 → f_X2_portersOf_4 q (n + 1) (nI b) (nI m) (nI t) h = f_X2_portersOf_4 q n (nI b) (nI (max m (σ 9 (4 * b + t)))) (nI (t + 1)) h := by
    intro n m t ht hm
    have := h9 t ht
    rw [f_X2_portersOf_4]
    simp (disch := omega) only [lt_s2, bd_s, bh_s, gz_0, gz_1, L0, L1, L2, L3, L4, L5, L6, L7, L8, L9, L10, L11, L12, L13, L14, L15, L16, L17, L18, L19, L20, L21, L22, L23, L24, L30, L31, L32, L36, L39, L40, L48, L57, L58, L59, L71, L72, L97, L99, L100, L122, L143, L144, L255, L320, L500, L720, L1000, L2300, L2400, nI_add, pk_mul, nI_leI, nI_ltI, nI_eqI, ck_nI, cl_nI, Nat.zero_add, Nat.add_zero, Nat.reduceAdd, Nat.reduceMul, if_pos, if_neg, if_true, if_false, ld_x hC hb h6]
    rw [← imax]
  obtain ⟨k, hk⟩ := fu_s 5 (by decide)
  unfold f_X2_portersOf
  rw [hk, show k + 5 = k + 1 + 1 + 1 + 1 + 1 from rfl, L0, st _ 0 0 (by decide) (by decide), st _ _ 1 (by decide) (by omega), st _ _ 2 (by decide) (by omega), st _ _ 3 (by decide) (by omega), f_X2_portersOf_4]
  simp (disch := omega) only [lt_s2, bd_s, bh_s, gz_0, gz_1, L0, L1, L2, L3, L4, L5, L6, L7, L8, L9, L10, L11, L12, L13, L14, L15, L16, L17, L18, L19, L20, L21, L22, L23, L24, L30, L31, L32, L36, L39, L40, L48, L57, L58, L59, L71, L72, L97, L99, L100, L122, L143, L144, L255, L320, L500, L720, L1000, L2300, L2400, nI_add, pk_mul, nI_leI, nI_ltI, nI_eqI, ck_nI, cl_nI, Nat.zero_add, Nat.add_zero, Nat.reduceAdd, Nat.reduceMul, if_pos, if_neg, if_true, if_false, x_allOf hC w hb]
  rw [pk_sub (by unfold al; omega)]
  rfl
theorem m_portersOf {h : AH} {σ : Sg} (hM : MR (h 4) σ) (w : WFs σ) {b : Nat} (hb : b < σ 0 1) : f_X8_portersOf 0 (nI b) h = some (nI (pt σ b), h) := by
  have h6 := w.2.1
  have h9 := (wf_b w hb).2.2.2.1
  have a0 := h9 0 (by decide); have a1 := h9 1 (by decide); have a2 := h9 2 (by decide); have a3 := h9 3 (by decide)
  have st : ∀ (n m t : Nat), t < 4 → m ≤ 9 → f_X8_portersOf_4 0 (n + 1) (nI b) (nI m) (nI t) h = f_X8_portersOf_4 0 n (nI b) (nI (max m (σ 9 (4 * b + t)))) (nI (t + 1)) h := by
    intro n m t ht hm
    have := h9 t ht
    rw [f_X8_portersOf_4]
    simp (disch := omega) only [lt_s2, bd_s, bh_s, gz_0, gz_1, L0, L1, L2, L3, L4, L5, L6, L7, L8, L9, L10, L11, L12, L13, L14, L15, L16, L17, L18, L19, L20, L21, L22, L23, L24, L30, L31, L32, L36, L39, L40, L48, L57, L58, L59, L71, L72, L97, L99, L100, L122, L143, L144, L255, L320, L500, L720, L1000, L2300, L2400, nI_add, pk_mul, nI_leI, nI_ltI, nI_eqI, ck_nI, cl_nI, Nat.zero_add, Nat.add_zero, Nat.reduceAdd, Nat.reduceMul, if_pos, if_neg, if_true, if_false, ld_m hM hb h6]
    by_cases c : σ 9 (4 * b + t) ≤ m
    · rw [if_pos c, Nat.max_eq_left c]
    · rw [if_neg c, Nat.max_eq_right (by omega)]
  obtain ⟨k, hk⟩ := fu_s 5 (by decide)
  unfold f_X8_portersOf
  rw [hk, show k + 5 = k + 1 + 1 + 1 + 1 + 1 from rfl, L0, st _ 0 0 (by decide) (by decide), st _ _ 1 (by decide) (by omega), st _ _ 2 (by decide) (by omega), st _ _ 3 (by decide) (by omega), f_X8_portersOf_4]
  simp (disch := omega) only [lt_s2, bd_s, bh_s, gz_0, gz_1, L0, L1, L2, L3, L4, L5, L6, L7, L8, L9, L10, L11, L12, L13, L14, L15, L16, L17, L18, L19, L20, L21, L22, L23, L24, L30, L31, L32, L36, L39, L40, L48, L57, L58, L59, L71, L72, L97, L99, L100, L122, L143, L144, L255, L320, L500, L720, L1000, L2300, L2400, nI_add, pk_mul, nI_leI, nI_ltI, nI_eqI, ck_nI, cl_nI, Nat.zero_add, Nat.add_zero, Nat.reduceAdd, Nat.reduceMul, if_pos, if_neg, if_true, if_false, m_allOf hM w hb]
  rw [pk_sub (by unfold al; omega)]
  rfl
theorem x_isTrade (x : Int32) (h : AH) : f_X7_isTrade x h = some (rg x 4, h) := by
  unfold f_X7_isTrade
  rw [L4, rg_le, rg_v]
theorem if01 {α : Type} (n : Nat) (h : n = 0 ∨ n = 1) (F : Int32 → α) : (if nI n = 0 then F 0 else F 1) = F (nI n) := by
  rcases h with rfl | rfl
  · rfl
  · rfl
theorem rg_ne {x : Int32} {n : Nat} (hn : n < 2 ^ 31) (h : rg x n = 0) : ∀ v : Nat, v < n → ¬ x = nI v := by
  intro v hv e
  rw [e, rg_in hv hn] at h
  exact absurd h (by decide)
theorem ok_boat (a0 a1 : Int32) : OK2 Rel (fun h => f_X7_boat 0 a0 a1 h) (fun h => f_X8_boat 0 a0 a1 h) := by
  intro hx hm hR
  show ∃ r hx2 hm2, f_X7_boat 0 a0 a1 hx = some (r, hx2) ∧ f_X8_boat 0 a0 a1 hm = some (r, hm2) ∧ Rel hx2 hm2
  have hR1 := rel_thrown hR
  unfold f_X7_boat f_X8_boat
  rw [lt_s2]
  generalize hset hm 0 0 0 = hm1 at hR1 ⊢
  obtain ⟨σ, w, hC, hM, -, -⟩ := hR1.2.2.2.1
  have hC : CQ hx 17 σ := hC
  have h6 := w.2.1
  simp only [Nat.zero_add, x_isBoat hC, m_isBoat hM w, bd_s, x_isTrade, m_in7]
  rcases rg_cases a0 (n := σ 0 1) (by omega) with h0 | ⟨j, hj, rfl⟩
  · simp only [h0, if_true]
    exact ⟨_, _, _, rfl, rfl, hR1⟩
  simp only [rg_in hj (show σ 0 1 < 2 ^ 31 by omega), if_neg n10]
  have hb := hM.2.2.2.2.2.2 j hj
  have hc := hC.2.2.2.2.2.2.2.2.2.1 j hj
  rcases rg_cases a1 (n := 8) (by decide) with h1 | ⟨k, hk, rfl⟩
  · have ne := rg_ne (by decide) h1
    have h4 : rg a1 4 = 0 := by
      rcases rg_cases a1 (n := 4) (by decide) with e | ⟨v, hv, e⟩
      · exact e
      · exact absurd e (ne v (by omega))
    simp only [h1, h4, if_true, if_neg (show ¬ a1 = 4 from ne 4 (by decide)), if_neg (show ¬ a1 = 5 from ne 5 (by decide)), if_neg (show ¬ a1 = 6 from ne 6 (by decide)), if_neg (show ¬ a1 = 7 from ne 7 (by decide))]
    exact ⟨_, _, _, rfl, rfl, hR1⟩
  simp only [rg_in hk (by decide), if_neg n10]
  by_cases hk4 : k < 4
  · simp only [rg_in hk4 (by decide), if_neg n10, ld_x hC hj h6 hk4, bd_s]
    simp (disch := omega) only [lt_s2, bd_s, bh_s, gz_0, gz_1, L0, L1, L2, L3, L4, L5, L6, L7, L8, L9, L10, L11, L12, L13, L14, L15, L16, L17, L18, L19, L20, L21, L22, L23, L24, L30, L31, L32, L36, L39, L40, L48, L57, L58, L59, L71, L72, L97, L99, L100, L122, L143, L144, L255, L320, L500, L720, L1000, L2300, L2400, nI_add, pk_mul, nI_leI, nI_ltI, nI_eqI, ck_nI, cl_nI, Nat.zero_add, Nat.add_zero, Nat.reduceAdd, Nat.reduceMul, if_pos, if_neg, if_true, if_false, ld_m hM hj h6]
    exact ⟨_, _, _, rfl, rfl, hR1⟩
  · have h4 : rg (nI k) 4 = 0 := by
      rcases rg_cases (nI k) (n := 4) (by decide) with e | ⟨v, hv, e⟩
      · exact e
      · have := (nI_eq (by omega) (by omega)).mp e
        omega
    simp only [h4, if_true]
    rcases (show k = 4 ∨ k = 5 ∨ k = 6 ∨ k = 7 by omega) with rfl | rfl | rfl | rfl
    · simp (disch := omega) only [lt_s2, bd_s, bh_s, gz_0, gz_1, L0, L1, L2, L3, L4, L5, L6, L7, L8, L9, L10, L11, L12, L13, L14, L15, L16, L17, L18, L19, L20, L21, L22, L23, L24, L30, L31, L32, L36, L39, L40, L48, L57, L58, L59, L71, L72, L97, L99, L100, L122, L143, L144, L255, L320, L500, L720, L1000, L2300, L2400, nI_add, pk_mul, nI_leI, nI_ltI, nI_eqI, ck_nI, cl_nI, Nat.zero_add, Nat.add_zero, Nat.reduceAdd, Nat.reduceMul, if_pos, if_neg, if_true, if_false, m_of, hb.2.1, show hx 23 j = nI (σ 8 j) from hc.2.1]
      exact ⟨_, _, _, rfl, rfl, hR1⟩
    · simp (disch := omega) only [lt_s2, bd_s, bh_s, gz_0, gz_1, L0, L1, L2, L3, L4, L5, L6, L7, L8, L9, L10, L11, L12, L13, L14, L15, L16, L17, L18, L19, L20, L21, L22, L23, L24, L30, L31, L32, L36, L39, L40, L48, L57, L58, L59, L71, L72, L97, L99, L100, L122, L143, L144, L255, L320, L500, L720, L1000, L2300, L2400, nI_add, pk_mul, nI_leI, nI_ltI, nI_eqI, ck_nI, cl_nI, Nat.zero_add, Nat.add_zero, Nat.reduceAdd, Nat.reduceMul, if_pos, if_neg, if_true, if_false, m_of, hb.2.2.2, show hx 17 6 = _ from hC.2.2.2.2.2.2.1, x_bitOf h6 (fun i hi => (wf_b w hi).2.2.2.2) hj]
      exact ⟨_, _, _, rfl, rfl, hR1⟩
    · simp (disch := omega) only [show (nI 6 = 4) = False from eq_false (by decide), show (nI 6 = 5) = False from eq_false (by decide), show (nI 6 = 6) = True from eq_true rfl, if_true, if_false, x_isMixed hC w hj, m_isMixed hM w hj, bd_s]
      rw [if01 (mx σ j) (mxd_01 _) (fun v => some (v, hx)), if01 (mx σ j) (mxd_01 _) (fun v => some (v, hm1))]
      exact ⟨_, _, _, rfl, rfl, hR1⟩
    · simp (disch := omega) only [show (nI 7 = 4) = False from eq_false (by decide), show (nI 7 = 5) = False from eq_false (by decide), show (nI 7 = 6) = False from eq_false (by decide), show (nI 7 = 7) = True from eq_true rfl, if_true, if_false, x_portersOf hC w hj, m_portersOf hM w hj, bd_s]
      exact ⟨_, _, _, rfl, rfl, hR1⟩
