-- pass
theorem sd_eq (σ : Sg) (b : Nat) : (if 4 ≤ σ 7 b then 1 else 0) = sd σ b := by
  unfold sd
  by_cases c : σ 7 b < 4
  · rw [if_pos c, if_neg (by omega)]
  · rw [if_neg c, if_pos (by omega)]
def tps (σ : Sg) (b a n : Nat) : Sg := fun i k => if i = 10 ∧ k = b then 1 else if i = 11 ∧ k = 72 * sd σ b + 6 * σ 0 2 + a then 1 else if i = 0 ∧ k = 3 then σ 0 3 + n else σ i k
theorem tps_ne {σ : Sg} {b a n i : Nat} (h : i ≠ 10 ∧ i ≠ 11 ∧ i ≠ 0) : tps σ b a n i = σ i := funext fun _ => by
  unfold tps
  rw [if_neg (fun z => h.1 z.1), if_neg (fun z => h.2.1 z.1), if_neg (fun z => h.2.2 z.1)]
theorem tps_k {σ : Sg} {b a n k : Nat} (h : k ≠ 3) : tps σ b a n 0 k = σ 0 k := by
  unfold tps
  rw [if_neg (by omega), if_neg (by omega), if_neg (by omega)]
theorem tps_3 {σ : Sg} {b a n : Nat} : tps σ b a n 0 3 = σ 0 3 + n := by
  unfold tps
  rw [if_neg (by omega), if_neg (by omega), if_pos ⟨rfl, rfl⟩]
theorem tps_10 {σ : Sg} {b a n k : Nat} : tps σ b a n 10 k = if k = b then 1 else σ 10 k := by
  unfold tps
  by_cases c : k = b
  · rw [if_pos ⟨rfl, c⟩, if_pos c]
  · rw [if_neg (fun z => c z.2), if_neg (by omega), if_neg (by omega), if_neg c]
theorem tps_11 {σ : Sg} {b a n k : Nat} : tps σ b a n 11 k = if k = 72 * sd σ b + 6 * σ 0 2 + a then 1 else σ 11 k := by
  unfold tps
  rw [if_neg (by omega)]
  by_cases c : k = 72 * sd σ b + 6 * σ 0 2 + a
  · rw [if_pos ⟨rfl, c⟩, if_pos c]
  · rw [if_neg (fun z => c z.2), if_neg (by omega), if_neg c]
theorem WF_pass {σ : Sg} (w : WFs σ) (hst : σ 0 4 = 1) {b a n : Nat} (ha : a < 6) : WFs (tps σ b a n) := by
  obtain ⟨w1, w2, w3, w4, w5, w6, w7, w8, w9, w10⟩ := w
  have hs := sd_lt σ b
  unfold WFs
  rw [tps_ne (i := 1) (by decide), tps_ne (i := 2) (by decide), tps_ne (i := 3) (by decide), tps_ne (i := 4) (by decide), tps_ne (i := 5) (by decide), tps_ne (i := 6) (by decide), tps_ne (i := 7) (by decide), tps_ne (i := 8) (by decide), tps_ne (i := 9) (by decide), tps_k (k := 0) (by decide), tps_k (k := 1) (by decide), tps_k (k := 2) (by decide), tps_k (k := 4) (by decide)]
  refine ⟨w1, w2, w3, w4, fun z => by omega, w6, w7, fun b' hb' => ?_, fun i hi => ?_, fun d t a' hd ht ha' h2 => ?_⟩
  · obtain ⟨q1, q2, q3, q4, q5⟩ := w8 b' hb'
    refine ⟨q1, q2, q3, q4, ?_⟩
    rw [tps_10]; split <;> omega
  · have := w9 i hi
    rw [tps_11]; split <;> omega
  · rw [tps_11, if_neg ?_]
    · exact w10 d t a' hd ht ha' h2
    · intro z
      rcases (show d = 0 ∨ d = 1 by omega) with rfl | rfl <;> rcases (show sd σ b = 0 ∨ sd σ b = 1 by omega) with e | e <;> rw [e] at z <;> omega
theorem CR_pass {c0 c1 c2 c3 c4 c5 c6 c7 c8 : Nat → Int32} {σ : Sg} (hC : CR c0 c1 c2 c3 c4 c5 c6 c7 c8 σ) (w : WFs σ) {b a n : Nat} (ha : a < σ 0 0) : CR (upd (upd c0 6 (nI (bsum (tps σ b a n 10) (σ 0 1)))) 4 (nI (σ 0 3 + n))) c1 c2 c3 c4 c5 c6 c7 (upd c8 (12 * sd σ b + σ 0 2) (nI (bsum (fun k => tps σ b a n 11 (72 * sd σ b + 6 * σ 0 2 + k)) (σ 0 0)))) (tps σ b a n) := by
  obtain ⟨w1, w2, w3, w4, w5, w6, w7, w8, w9, w10, w11⟩ := hC
  have hs := sd_lt σ b
  have h6 := w.1
  have h11 := w.2.2.1
  unfold CR
  rw [tps_ne (i := 1) (by decide), tps_ne (i := 2) (by decide), tps_ne (i := 3) (by decide), tps_ne (i := 4) (by decide), tps_ne (i := 5) (by decide), tps_ne (i := 6) (by decide), tps_ne (i := 7) (by decide), tps_ne (i := 8) (by decide), tps_ne (i := 9) (by decide), tps_k (k := 0) (by decide), tps_k (k := 1) (by decide), tps_k (k := 2) (by decide), tps_k (k := 4) (by decide), tps_3]
  refine ⟨?_, ?_, ?_, ?_, ?_, ?_, ?_, w8, w9, w10, fun d t hd ht => ?_⟩
  · rw [pk_un (by decide), pk_un (by decide)]; exact w1
  · rw [pk_un (by decide), pk_un (by decide)]; exact w2
  · rw [pk_un (by decide), pk_un (by decide)]; exact w3
  · rw [pk_un (by decide), pk_un (by decide)]; exact w4
  · rw [pk_us]
  · rw [pk_un (by decide), pk_un (by decide)]; exact w6
  · rw [pk_un (by decide), pk_us]
  · by_cases c : 12 * d + t = 12 * sd σ b + σ 0 2
    · have e1 : d = sd σ b := by omega
      have e2 : t = σ 0 2 := by omega
      rw [e1, e2, pk_us]
    · rw [pk_un c, w11 d t hd ht]
      congr 1
      refine bs_congr (fun i hi => ?_)
      rw [tps_11, if_neg ?_]
      intro z
      apply c
      rcases (show d = 0 ∨ d = 1 by omega) with rfl | rfl <;> rcases (show sd σ b = 0 ∨ sd σ b = 1 by omega) with e | e <;> rw [e] at z ⊢ <;> omega
theorem MR_pass {w : Nat → Int32} {σ : Sg} (hM : MR w σ) (wf : WFs σ) {b a n : Nat} (ha : a < σ 0 0) (hb : b < σ 0 1) : MR (upd (upd (upd w (16 + 7 * a + 5 + sd σ b) 1) (58 + 7 * b + 6) 1) 3 (nI (σ 0 3 + n))) (tps σ b a n) := by
  obtain ⟨w1, w2, w3, w4, w5, w6, w7⟩ := hM
  have hs := sd_lt σ b
  have h6 := wf.1
  have h6b := wf.2.1
  have h11 := wf.2.2.1
  unfold MR
  rw [tps_ne (i := 1) (by decide), tps_ne (i := 2) (by decide), tps_ne (i := 3) (by decide), tps_ne (i := 4) (by decide), tps_ne (i := 5) (by decide), tps_ne (i := 6) (by decide), tps_ne (i := 7) (by decide), tps_ne (i := 8) (by decide), tps_ne (i := 9) (by decide), tps_k (k := 0) (by decide), tps_k (k := 1) (by decide), tps_k (k := 2) (by decide), tps_3]
  refine ⟨?_, ?_, ?_, ?_, fun t ht => ?_, fun a' ha' => ?_, fun b' hb' => ?_⟩
  · rw [pk_un (by omega), pk_un (by omega), pk_un (by omega)]; exact w1
  · rw [pk_un (by omega), pk_un (by omega), pk_un (by omega)]; exact w2
  · rw [pk_un (by omega), pk_un (by omega), pk_un (by omega)]; exact w3
  · rw [pk_us]
  · rw [pk_un (by omega), pk_un (by omega), pk_un (by omega)]; exact w5 t ht
  · obtain ⟨q1, q2, q3, q4, q5, q6, q7⟩ := w6 a' ha'
    refine ⟨?_, ?_, ?_, ?_, ?_, ?_, ?_⟩
    · rw [pk_un (by omega), pk_un (by omega), pk_un (by omega)]; exact q1
    · rw [pk_un (by omega), pk_un (by omega), pk_un (by omega)]; exact q2
    · rw [pk_un (by omega), pk_un (by omega), pk_un (by omega)]; exact q3
    · rw [pk_un (by omega), pk_un (by omega), pk_un (by omega)]; exact q4
    · rw [pk_un (by omega), pk_un (by omega), pk_un (by omega)]; exact q5
    · rw [pk_un (by omega), pk_un (by omega), tps_11]
      by_cases c : 16 + 7 * a' + 5 = 16 + 7 * a + 5 + sd σ b
      · rw [c, pk_us, if_pos (by omega)]; rfl
      · rw [pk_un c, if_neg (by omega)]; exact q6
    · rw [pk_un (by omega), pk_un (by omega), tps_11]
      by_cases c : 16 + 7 * a' + 6 = 16 + 7 * a + 5 + sd σ b
      · rw [c, pk_us, if_pos (by omega)]; rfl
      · rw [pk_un c, if_neg (by omega)]; exact q7
  · obtain ⟨q1, q2, q3, q4⟩ := w7 b' hb'
    refine ⟨by rw [pk_un (by omega), pk_un (by omega), pk_un (by omega)]; exact q1, by rw [pk_un (by omega), pk_un (by omega), pk_un (by omega)]; exact q2, fun t ht => by rw [pk_un (by omega), pk_un (by omega), pk_un (by omega)]; exact q3 t ht, ?_⟩
    rw [pk_un (by omega), tps_10]
    by_cases c : b' = b
    · rw [c, pk_us, if_pos rfl]; rfl
    · rw [pk_un (by omega), pk_un (by omega), if_neg c]; exact q4
theorem x_isGone {h : AH} {q : Nat} {σ : Sg} (hC : CQ h q σ) (w : WFs σ) {b : Nat} (hb : b < σ 0 1) : f_X2_isGone q (nI b) h = some (nI (σ 10 b), h) := by
  have h6 := w.2.1
  have h1 := (wf_b w hb).2.2.2.2
  unfold f_X2_isGone
  rw [hC.2.2.2.2.2.2.1, x_bitOf h6 (fun i hi => (wf_b w hi).2.2.2.2) hb, bd_s]
  rcases (show σ 10 b = 0 ∨ σ 10 b = 1 by omega) with e | e
  · rw [e]; rfl
  · rw [e]; rfl
def tv (σ : Sg) (b a : Nat) : Nat := σ 5 a * al σ b * (mx σ b + 1)
theorem x_tollOf {h : AH} {q : Nat} {σ : Sg} (hC : CQ h q σ) (w : WFs σ) {b a : Nat} (hb : b < σ 0 1) (ha : a < σ 0 0) : f_X2_tollOf q (nI b) (nI a) h = some (nI (tv σ b a), h) := by
  have h6 := w.1
  unfold f_X2_tollOf tv
  rw [ck_nI _ (by omega) (by decide), cl_nI (by omega), x_allOf hC w hb, bd_s, x_isMixed hC w hb, lt_s2, bd_s, (hC.2.2.2.2.2.2.2.2.1 a ha).2.2.2, L2, pk_mul, pk_mul]
  rcases mxd_01 (tr σ b) with e | e
  · rw [show mx σ b = 0 from e, if_n0, Nat.zero_add, Nat.mul_one]
  · rw [show mx σ b = 1 from e, if_n1, Nat.mul_comm 2]
theorem x_goBy {h : AH} {σ : Sg} (hC : CQ h 17 σ) (w : WFs σ) {b a n : Nat} (hb : b < σ 0 1) (ha : a < σ 0 0) : f_X2_goBy 17 (nI b) (nI a) (nI n) h = some ((), hset (hset (hset h 17 6 (nI (bsum (tps σ b a n 10) (σ 0 1)))) 25 (12 * sd σ b + σ 0 2) (nI (bsum (fun k => tps σ b a n 11 (72 * sd σ b + 6 * σ 0 2 + k)) (σ 0 0)))) 17 4 (nI (σ 0 3 + n))) := by
  have h6 := w.1
  have h6b := w.2.1
  have h11 := w.2.2.1
  have hs := sd_lt σ b
  have e1 := x_withBit (f := σ 10) (g := tps σ b a n 10) (v := 1) h6b (fun i hi => (wf_b w hi).2.2.2.2) hb (by decide) (fun i => tps_10) h
  have hg : ∀ i, tps σ b a n 11 (72 * sd σ b + 6 * σ 0 2 + i) = if i = a then 1 else σ 11 (72 * sd σ b + 6 * σ 0 2 + i) := fun i => by
    rw [tps_11]
    by_cases c : i = a
    · rw [if_pos c, if_pos (by omega)]
    · rw [if_neg c, if_neg (by omega)]
  have e2 := fun h' : AH => x_withBit (f := fun k => σ 11 (72 * sd σ b + 6 * σ 0 2 + k)) (g := fun k => tps σ b a n 11 (72 * sd σ b + 6 * σ 0 2 + k)) (v := 1) h6 (fun i hi => wf_w w (by omega)) ha (by decide) hg h'
  have e3 : f_X2_sideOf 17 (nI b) (hset h 17 6 (nI (bsum (tps σ b a n 10) (σ 0 1)))) = some (nI (sd σ b), hset h 17 6 (nI (bsum (tps σ b a n 10) (σ 0 1)))) := by
    have h5 := (wf_b w hb).2.1
    unfold f_X2_sideOf sd
    rw [ck_nI _ (by omega) (by decide), cl_nI (by omega), hs_cell _ _ _ _ _ (by decide), (hC.2.2.2.2.2.2.2.2.2.1 b hb).1]
    by_cases c : σ 7 b < 4
    · simp (disch := omega) only [lt_s2, bd_s, bh_s, gz_0, gz_1, L0, L1, L2, L3, L4, L5, L6, L7, L8, L9, L10, L11, L12, L13, L14, L15, L16, L17, L18, L19, L20, L21, L22, L23, L24, L30, L31, L32, L36, L39, L40, L48, L57, L58, L59, L71, L72, L97, L99, L100, L122, L143, L144, L255, L320, L500, L720, L1000, L2300, L2400, nI_add, pk_mul, nI_leI, nI_ltI, nI_eqI, ck_nI, cl_nI, Nat.zero_add, Nat.add_zero, Nat.reduceAdd, Nat.reduceMul, if_pos, if_neg, if_true, if_false]
    · simp (disch := omega) only [lt_s2, bd_s, bh_s, gz_0, gz_1, L0, L1, L2, L3, L4, L5, L6, L7, L8, L9, L10, L11, L12, L13, L14, L15, L16, L17, L18, L19, L20, L21, L22, L23, L24, L30, L31, L32, L36, L39, L40, L48, L57, L58, L59, L71, L72, L97, L99, L100, L122, L143, L144, L255, L320, L500, L720, L1000, L2300, L2400, nI_add, pk_mul, nI_leI, nI_ltI, nI_eqI, ck_nI, cl_nI, Nat.zero_add, Nat.add_zero, Nat.reduceAdd, Nat.reduceMul, if_pos, if_neg, if_true, if_false]
  have e4 := hC.2.2.2.2.2.2.2.2.2.2 (sd σ b) (σ 0 2) hs (by omega)
  unfold f_X2_goBy f_X2_markWent
  rw [show h 17 6 = _ from hC.2.2.2.2.2.2.1, show (1 : Int32) = nI 1 from rfl, e1, bd_s, lt_s2, e3, bd_s, lt_s2, hs_place _ _ _ _ _ (by decide), show h 17 3 = _ from hC.2.2.2.1, L12, pk_mul, nI_add, Nat.mul_comm (sd σ b) 12, ck_nI _ (by omega) (by decide), cl_nI (by omega), hs_cell _ _ _ _ _ (by decide)]
  rw [show h (17 + 8) (12 * sd σ b + σ 0 2) = _ from e4, e2, bd_s, ck_nI _ (by omega) (by decide), lt_s2, bd_s, lt_s2, hs_cell _ _ _ _ _ (by decide), hs_place _ _ _ _ _ (by decide), show h 17 4 = _ from hC.2.2.2.2.1, nI_add]
theorem m_pass100 {hk h : AH} {σ : Sg} (hM : MR (h 4) σ) (e4 : hk 4 = h 4) (wf : WFs σ) {b a : Nat} (ha : a < σ 0 0) (hb : b < σ 0 1) (y0 y1 : Int32) (n : Nat) (e : y1 * y0 = nI n) : f_X8_pass_100 0 (nI b) (nI a) (nI (sd σ b)) y0 y1 hk = some (nI n, hset (hset (hset hk 4 (16 + 7 * a + 5 + sd σ b) 1) 4 (58 + 7 * b + 6) 1) 4 3 (nI (σ 0 3 + n))) := by
  have h6 := wf.1
  have h6b := wf.2.1
  have hs := sd_lt σ b
  unfold f_X8_pass_100
  rw [e]
  simp (disch := omega) only [lt_s2, L0, L1, L2, L3, L4, L5, L6, L7, L8, L9, L10, L11, L12, L13, L14, L15, L16, L17, L18, L19, L20, L21, L22, L23, L24, L30, L31, L32, L36, L39, L40, L48, L57, L58, L59, L71, L72, L97, L99, L100, L122, L143, L144, L255, L320, L500, L720, L1000, L2300, L2400, pk_mul, nI_add, ck_nI, cl_nI, Nat.zero_add]
  rw [hs_place _ _ _ _ _ (by omega), hs_place _ _ _ _ _ (by omega), e4, hM.2.2.2.1, nI_add]
theorem ok_pass (a0 a1 : Int32) : OK2 Rel (fun h => f_X7_pass 0 a0 a1 h) (fun h => f_X8_pass 0 a0 a1 h) := by
  intro hx hm hR
  show ∃ r hx2 hm2, f_X7_pass 0 a0 a1 hx = some (r, hx2) ∧ f_X8_pass 0 a0 a1 hm = some (r, hm2) ∧ Rel hx2 hm2
  have hR1 := rel_thrown hR
  unfold f_X7_pass f_X8_pass
  rw [lt_s2]
  generalize hset hm 0 0 0 = hm1 at hR1 ⊢
  obtain ⟨σ, w, hC, hM, e7, o, n, ho, hn, e4, e5, e9, hs1, hch⟩ := hR1.2.2.2.1
  have hC : CQ hx 17 σ := hC
  have h6 := w.1
  have h6b := w.2.1
  have h11 := w.2.2.1
  simp only [Nat.zero_add, x_isBoat hC, m_isBoat hM w, x_isArch hC, m_isArch hM w, bd_s]
  rcases rg_cases a0 (n := σ 0 1) (by omega) with h0 | ⟨b, hb, rfl⟩
  · simp only [h0, if_true]
    exact ⟨_, _, _, rfl, rfl, hR1⟩
  rcases rg_cases a1 (n := σ 0 0) (by omega) with h0 | ⟨a, ha, rfl⟩
  · simp only [h0, if_true, rg_in hb (show σ 0 1 < 2 ^ 31 by omega), if_neg n10]
    exact ⟨_, _, _, rfl, rfl, hR1⟩
  have hst := stands_of w (Or.inl (by omega))
  have hs := sd_lt σ b
  have hcm : hm1 4 (58 + 7 * b + 6) = nI (σ 10 b) := (hM.2.2.2.2.2.2 b hb).2.2.2
  have hwm : hm1 4 (16 + 7 * a + (5 + sd σ b)) = nI (σ 11 (72 * sd σ b + 6 * σ 0 2 + a)) := by
    have := (hM.2.2.2.2.2.1 a ha).2.2.2.2.2
    rcases (show sd σ b = 0 ∨ sd σ b = 1 by omega) with e | e
    · rw [e]; simpa using this.1
    · rw [e]; simpa using this.2
  have hwl := wf_w w (i := 72 * sd σ b + 6 * σ 0 2 + a) (by omega)
  have hgl := (wf_b w hb).2.2.2.2
  simp only [rg_in hb (show σ 0 1 < 2 ^ 31 by omega), rg_in ha (show σ 0 0 < 2 ^ 31 by omega), if_neg n10, x_isGone hC w hb, m_sideOf hM w hb, bd_s, L6, m_of hm1 (show b < 6 by omega) (show 6 < 7 by decide), hcm]
  rcases (show σ 10 b = 1 ∨ σ 10 b = 0 by omega) with g | g
  · simp only [g, show (nI 1 = 0) = False from eq_false n10, show (nI 1 = 1) = True from eq_true rfl, if_true, if_false]
    exact ⟨_, _, _, rfl, rfl, hR1⟩
  simp only [g, show (nI 0 = 1) = False from eq_false (by decide), show (nI 0 = 0) = True from eq_true rfl, if_true, if_false, show hx 17 3 = _ from hC.2.2.2.1, x_letsBy hC w hb ha (show σ 0 2 < 12 by omega), bd_s, L2, ck_nI _ (show 2 < 100 by decide) (by decide), cl_nI (show 2 < 2 ^ 31 by decide), hM.2.2.1, m_mayGo hM w hb ha (show σ 0 2 < 12 by omega)]
  rcases ltb_01 σ b a (σ 0 2) (σ (2 + sd σ b) a) with g2 | g2
  · simp only [g2, show (nI 0 = 0) = True from eq_true rfl, if_true]
    exact ⟨_, _, _, rfl, rfl, hR1⟩
  simp only [g2, show (nI 1 = 0) = False from eq_false n10, if_false, x_sideOf hC w hb, bd_s, x_wentIn hC w hs ha, L5, nI_add, m_archOf hm1 (show a < 6 by omega) (show 5 + sd σ b < 7 by omega), hwm]
  rcases (show σ 11 (72 * sd σ b + 6 * σ 0 2 + a) = 1 ∨ σ 11 (72 * sd σ b + 6 * σ 0 2 + a) = 0 by omega) with g3 | g3
  · simp only [g3, show (nI 1 = 1) = True from eq_true rfl, if_true]
    exact ⟨_, _, _, rfl, rfl, hR1⟩
  simp only [g3, show (nI 0 = 1) = False from eq_false (by decide), if_false, x_tollOf hC w hb ha, bd_s, x_goBy hC w hb ha]
  obtain ⟨h2, q1, q2, q3, q4, q5, q6, q7, q8⟩ := x_keep (h := hset (hset (hset hx 17 6 (nI (bsum (tps σ b a (tv σ b a) 10) (σ 0 1)))) 25 (12 * sd σ b + σ 0 2) (nI (bsum (fun k => tps σ b a (tv σ b a) 11 (72 * sd σ b + 6 * σ 0 2 + k)) (σ 0 0)))) 17 4 (nI (σ 0 3 + tv σ b a))) ho hn (by rw [hs_cell _ _ _ _ _ (by decide), hs_cell _ _ _ _ _ (by decide), hs_cell _ _ _ _ _ (by decide)]; exact e4) (by rw [hs_cell _ _ _ _ _ (by decide), hs_cell _ _ _ _ _ (by decide), hs_cell _ _ _ _ _ (by decide)]; exact e5) 2 (nI b) (nI a) (nI (tv σ b a))
  obtain ⟨hk, p1, p2, p3, p4, p5⟩ := m_keep hn e9
  have k4 := p2 4 (by decide) (by decide)
  have hMk : MR (hk 4) σ := by rw [k4]; exact hM
  have ek : hk 4 (16 + 7 * a + 3) = nI (σ 5 a) := (hMk.2.2.2.2.2.1 a ha).2.2.2.1
  have em : (if nI (mx σ b) = 0 then f_X8_pass_100 0 (nI b) (nI a) (nI (sd σ b)) 1 (nI (σ 5 a * al σ b)) hk else f_X8_pass_100 0 (nI b) (nI a) (nI (sd σ b)) 2 (nI (σ 5 a * al σ b)) hk) = some (nI (tv σ b a), hset (hset (hset hk 4 (16 + 7 * a + 5 + sd σ b) 1) 4 (58 + 7 * b + 6) 1) 4 3 (nI (σ 0 3 + tv σ b a))) := by
    unfold tv
    rcases mxd_01 (tr σ b) with e | e
    · rw [show mx σ b = 0 from e, if_n0]
      exact m_pass100 hMk rfl w ha hb _ _ _ (by rw [L1, pk_mul])
    · rw [show mx σ b = 1 from e, if_n1]
      exact m_pass100 hMk rfl w ha hb _ _ _ (by rw [L2, pk_mul])
  simp only [← L2, q1, p1, bd_s]
  simp only [L3, m_archOf hk (show a < 6 by omega) (show 3 < 7 by decide), bd_s, ek, m_allOf hMk w hb, m_isMixed hMk w hb, pk_mul]
  rw [em]
  refine ⟨_, _, _, rfl, rfl, act_done (τ := tps σ b a (tv σ b a)) hR1 w hM e7 ho hn hch hst (fun c c1 => by rw [hs_cell _ _ _ _ _ (by omega), hs_cell _ _ _ _ _ (by omega), hs_cell _ _ _ _ _ (by omega)]) q2 q3 q4 q5 q6 q7 q8 p2 p3 p4 p5 (fun c c4 => by rw [hs_cell _ _ _ _ _ c4, hs_cell _ _ _ _ _ c4, hs_cell _ _ _ _ _ c4]) (WF_pass w hst (by omega)) ?_ ?_ ?_ ?_⟩
  · rw [tps_k (by decide)]; exact hst
  · exact Or.inr (Or.inr (Or.inl ⟨b, a, tv σ b a, hb, ha, rfl, rfl, rfl, rfl, g, by rw [sd_eq]; exact g3, fun i k => by rw [sd_eq]; rfl⟩))
  · have := CR_pass hC w (b := b) (n := tv σ b a) ha
    simp only [hset, hput, upd, reduceIte, Nat.reduceEqDiff, if_true, if_false, Nat.reduceAdd] at this ⊢
    exact this
  · rw [hs_row, hs_row, hs_row, k4]
    exact MR_pass hM w ha hb
