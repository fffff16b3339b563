-- feed
theorem m_inI (x l u : Int32) {lo hi : Int64} (h1 : lo.toInt = l.toInt) (h2 : hi.toInt = u.toInt) (h : AH) : f_X8_in x.toInt64 lo hi h = some (if x < l then 0 else if u < x then 0 else 1, h) := by
  have e0 : (lg_cmp x.toInt64 lo < 0) ↔ x < l := by
    rw [lg_lt, Int64.lt_iff_toInt_lt, w_toInt, h1, Int32.lt_iff_toInt_lt]
  have e1 : (0 < lg_cmp x.toInt64 hi) ↔ u < x := by
    rw [lg_gt, Int64.lt_iff_toInt_lt, w_toInt, h2, Int32.lt_iff_toInt_lt]
  unfold f_X8_in
  by_cases q0 : x < l
  · rw [if_pos (e0.mpr q0), if_pos q0]
  · rw [if_neg (fun q => q0 (e0.mp q)), if_neg q0]
    by_cases q1 : u < x
    · rw [if_pos (e1.mpr q1), if_pos q1]
    · rw [if_neg (fun q => q1 (e1.mp q)), if_neg q1]
theorem byte_of (y : Int64) : ∃ v : Nat, v < 256 ∧ (y &&& 255).toInt32 = nI v ∧ vp_nar .byte (y.toInt32.toInt8.toInt32) = (nI v).toInt8.toInt32 := by
  have e : y &&& 255 = lN (y &&& 255).toBitVec.toNat := by
    apply Int64.toBitVec_inj.mp
    show _ = BitVec.ofNat 64 (y &&& 255).toBitVec.toNat
    rw [BitVec.ofNat_toNat, BitVec.setWidth_eq]
  refine ⟨(y &&& 255).toBitVec.toNat, ?_, ?_, ?_⟩
  · rw [Int64.toBitVec_and, BitVec.toNat_and]
    exact Nat.lt_of_le_of_lt Nat.and_le_right (by decide)
  · rw [← lN_i, ← e]
  · rw [vp_nar_byte, ← lN_i, ← e]
    have h1 : (y &&& 255).toInt32.toInt8 = y.toInt32.toInt8 := by
      rw [Int64.toInt8_toInt32, Int64.toInt8_toInt32, Int64.toInt8_and]
      have : (255 : Int64).toInt8 = -1 := by decide
      rw [this, Int8.and_neg_one]
    rw [h1, Int8.toInt8_toInt32]
theorem sub1 (k : Nat) : nI k + (-1) = nI k - 1 := by
  rw [Int32.sub_eq_add_neg]
theorem feed_loop (w : Int64) : ∀ (k fuel fuel2 n : Nat) (hx hm : AH), k < fuel → k < fuel2 → n + k ≤ 500 → hx 5 1 = nI n → hm 0 11 = nI n → (∀ j, j < n → ∃ v : Nat, v < 256 ∧ hm 7 j = nI v ∧ hx 6 j = (nI v).toInt8.toInt32) → ∃ hx2 hm2 : AH, f_X6_append_19 5 fuel w (nI k - 1) hx = some (1, hx2) ∧ f_X8_feed_40 0 fuel2 w (nI k - 1) hm = some (nI (n + k), hm2) ∧ hx2 5 1 = nI (n + k) ∧ hm2 0 11 = nI (n + k) ∧ (∀ j, j < n + k → ∃ v : Nat, v < 256 ∧ hm2 7 j = nI v ∧ hx2 6 j = (nI v).toInt8.toInt32) ∧ (∀ c, c ≠ 5 → c ≠ 6 → hx2 c = hx c) ∧ (∀ c, c ≠ 0 → c ≠ 7 → hm2 c = hm c) ∧ (∀ i, i ≠ 0 → i ≠ 11 → hm2 0 i = hm 0 i) := by
  intro k
  induction k with
  | zero =>
    intro fuel fuel2 n hx hm hf hf2 hn e5 e11 hb
    obtain ⟨f, rfl⟩ : ∃ f, fuel = f + 1 := ⟨fuel - 1, by omega⟩
    obtain ⟨g, rfl⟩ : ∃ f, fuel2 = f + 1 := ⟨fuel2 - 1, by omega⟩
    refine ⟨hx, hm, ?_, ?_, e5, e11, hb, fun _ _ _ => rfl, fun _ _ _ => rfl, fun _ _ _ => rfl⟩
    · rw [f_X6_append_19, if_pos (show nI 0 - 1 < 0 by decide)]
    · rw [f_X8_feed_40, if_pos (show nI 0 - 1 < 0 by decide), e11]
      rfl
  | succ k ih =>
    intro fuel fuel2 n hx hm hf hf2 hn e5 e11 hb
    obtain ⟨f, rfl⟩ : ∃ f, fuel = f + 1 := ⟨fuel - 1, by omega⟩
    obtain ⟨g, rfl⟩ : ∃ f, fuel2 = f + 1 := ⟨fuel2 - 1, by omega⟩
    obtain ⟨v, hv, v1, v2⟩ := byte_of (w >>> ((8 * nI k).toInt64 &&& 63))
    rw [nI_pred, f_X6_append_19, f_X8_feed_40, if_neg (nI_pos (by omega)), if_neg (nI_pos (by omega)), e5, e11]
    simp (disch := omega) only [lt_s2, ck_nI, cl_nI, Nat.zero_add, Nat.reduceAdd, v1, v2, sub1]
    rw [hs_cell _ _ _ _ 5 (by decide), hs_cell _ _ _ _ 0 (by decide), e5, e11, nI_1]
    have hb2 : ∀ j, j < n + 1 → ∃ u : Nat, u < 256 ∧ (hset (hset hm 7 n (nI v)) 0 11 (nI (n + 1))) 7 j = nI u ∧ (hset (hset hx 6 n (nI v).toInt8.toInt32) 5 1 (nI (n + 1))) 6 j = (nI u).toInt8.toInt32 := by
      intro j hj
      rw [hs_cell _ _ _ _ 7 (by decide), hs_cell _ _ _ _ 6 (by decide)]
      by_cases c : j = n
      · subst c
        exact ⟨v, hv, by rw [hs_self], by rw [hs_self]⟩
      · rw [hs_place _ _ _ _ _ c, hs_place _ _ _ _ _ c]
        exact hb j (by omega)
    obtain ⟨hx2, hm2, r1, r2, r3, r4, r5, r6, r7, r8⟩ := ih f g (n + 1) (hset (hset hx 6 n (nI v).toInt8.toInt32) 5 1 (nI (n + 1))) (hset (hset hm 7 n (nI v)) 0 11 (nI (n + 1))) (by omega) (by omega) (by omega) (by rw [hs_self]) (by rw [hs_self]) hb2
    refine ⟨hx2, hm2, r1, ?_, ?_, ?_, ?_, fun c c1 c2 => ?_, fun c c1 c2 => ?_, fun i i0 i1 => ?_⟩
    · rw [r2]; congr 3; omega
    · rw [r3]; congr 1; omega
    · rw [r4]; congr 1; omega
    · intro j hj; exact r5 j (by omega)
    · rw [r6 c c1 c2, hs_cell _ _ _ _ _ c1, hs_cell _ _ _ _ _ c2]
    · rw [r7 c c1 c2, hs_cell _ _ _ _ _ c1, hs_cell _ _ _ _ _ c2]
    · rw [r8 i i0 i1, hs_place _ _ _ _ _ i1, hs_cell _ _ _ _ _ (by decide)]
theorem ok_feed (a0 : Int64) (a1 : Int32) : OK2 Rel (fun h => f_X7_feed 0 a0 a1 h) (fun h => f_X8_feed 0 a0 a1 h) := by
  intro hx hm hR
  show ∃ r hx2 hm2, f_X7_feed 0 a0 a1 hx = some (r, hx2) ∧ f_X8_feed 0 a0 a1 hm = some (r, hm2) ∧ Rel hx2 hm2
  have hR1 := rel_thrown hR
  unfold f_X7_feed f_X8_feed
  rw [lt_s2 (hset hm 0 0 0)]
  generalize hset hm 0 0 0 = hm1 at hR1 ⊢
  rw [m_inI a1 1 8 (by decide) (by decide), bd_s]
  by_cases c1 : a1 < 1
  · rw [if_pos c1, if_pos c1, if_pos rfl]
    exact ⟨_, _, _, rfl, rfl, hR1⟩
  by_cases c2 : a1 ≤ 8
  rotate_left
  · rw [if_neg c1, if_neg c2, if_neg c1, if_pos (Int32.not_le.mp c2), if_pos rfl]
    exact ⟨_, _, _, rfl, rfl, hR1⟩
  rw [if_neg c1, if_pos c2, if_neg c1, if_neg (Int32.not_lt.mpr c2), if_neg n10]
  obtain ⟨n, hn, rfl⟩ : ∃ n : Nat, n ≤ 8 ∧ a1 = nI n := nI_of2 (M := 8) (n := 8) (by decide) (fun z => c1 (Int32.lt_of_lt_of_le z (by decide))) c2
  have hn1 : 1 ≤ n := by
    by_cases c : n = 0
    · subst c
      exact absurd (by decide) c1
    · omega
  obtain ⟨t, ht, e1, e2, e3⟩ := hR1.2.2.1
  unfold f_X6_append
  rw [Nat.zero_add, e1, L500, pk_sub (by omega), e2, nI_add]
  by_cases c : t + n ≤ 500
  · rw [if_pos (nI_le (by omega) (by omega)), if_pos (nI_le c (by omega)), lt_s2, lt_s2]
    obtain ⟨hx2, hm2, r1, r2, r3, r4, r5, r6, r7, r8⟩ := feed_loop a0 n fu fu t hx hm1 (fu_ge _ (by omega)) (fu_ge _ (by omega)) c e1 e2 e3
    rw [r1, r2, bd_s, if_neg n10]
    unfold f_X6_size
    rw [bd_s, r3]
    exact ⟨_, _, _, rfl, rfl, rel_tape hR1 r6 r7 r8 ⟨t + n, c, r3, r4, r5⟩⟩
  · rw [if_neg (nI_ge (by omega) (by omega)), if_neg (nI_ge (by omega) (by omega)), bd_s, if_pos rfl]
    exact ⟨_, _, _, rfl, rfl, hR1⟩
-- count
theorem pop_add : ∀ n, n < 6 → ∀ s, s < 2 ^ n → ∀ v, v < 2 → pop6 (s + v * 2 ^ n) = pop6 s + v := by decide +kernel
def psum (f : Nat → Nat) : Nat → Nat
  | 0 => 0
  | n + 1 => psum f n + f n
theorem pop_bs {f : Nat → Nat} : ∀ {n : Nat}, n ≤ 6 → (∀ i, i < n → f i ≤ 1) → pop6 (bsum f n) = psum f n := by
  intro n
  induction n with
  | zero => intro _ _; unfold bsum psum; decide
  | succ n ih =>
    intro hn h
    have h1 := h n (by omega)
    show pop6 (bsum f n + f n * 2 ^ n) = psum f n + f n
    rw [pop_add n (by omega) _ (bs_lt (fun i hi => h i (by omega))) _ (by omega), ih (by omega) (fun i hi => h i (by omega))]
theorem m_gone {h : AH} {σ : Sg} (hM : MR (h 4) σ) (w : WFs σ) : ∀ (k fuel b : Nat), b + k = σ 0 1 → k < fuel → f_X8_count_105 0 fuel (nI (psum (σ 10) b)) (nI b) h = some (nI (psum (σ 10) (σ 0 1)), h) := by
  have h6 := w.2.1
  intro k
  induction k with
  | zero =>
    intro fuel b e hf
    obtain ⟨f, rfl⟩ : ∃ f, fuel = f + 1 := ⟨fuel - 1, by omega⟩
    have : b = σ 0 1 := by omega
    subst this
    rw [f_X8_count_105]
    simp (disch := omega) only [lt_s2, bd_s, bh_s, gz_0, gz_1, L0, L1, L2, L3, L4, L5, L6, L7, L8, L9, L10, L11, L12, L13, L14, L15, L16, L17, L18, L19, L20, L21, L22, L23, L24, L30, L31, L32, L36, L39, L40, L48, L57, L58, L59, L71, L72, L97, L99, L100, L122, L143, L144, L255, L320, L500, L720, L1000, L2300, L2400, nI_add, pk_mul, nI_leI, nI_ltI, nI_eqI, ck_nI, cl_nI, Nat.zero_add, Nat.add_zero, Nat.reduceAdd, Nat.reduceMul, if_pos, if_neg, if_true, if_false, hM.2.1]
  | succ k ih =>
    intro fuel b e hf
    obtain ⟨f, rfl⟩ : ∃ f, fuel = f + 1 := ⟨fuel - 1, by omega⟩
    rw [f_X8_count_105]
    simp (disch := omega) only [lt_s2, bd_s, bh_s, gz_0, gz_1, L0, L1, L2, L3, L4, L5, L6, L7, L8, L9, L10, L11, L12, L13, L14, L15, L16, L17, L18, L19, L20, L21, L22, L23, L24, L30, L31, L32, L36, L39, L40, L48, L57, L58, L59, L71, L72, L97, L99, L100, L122, L143, L144, L255, L320, L500, L720, L1000, L2300, L2400, nI_add, pk_mul, nI_leI, nI_ltI, nI_eqI, ck_nI, cl_nI, Nat.zero_add, Nat.add_zero, Nat.reduceAdd, Nat.reduceMul, if_pos, if_neg, if_true, if_false, hM.2.1, m_of, (hM.2.2.2.2.2.2 b (show b < σ 0 1 by omega)).2.2.2]
    exact ih f (b + 1) (by omega) (by omega)
theorem rows_loop {hx hm : AH} (hr : RR (hx 2) (hx 3) (hx 4) (hm 1) (hm 2) (hm 3)) : ∀ (k fuel fuel2 r : Nat) (s : Int32), r + k = 8 → k < fuel → k < fuel2 → ∃ v, f_X5_present_4 1 fuel s (nI r) hx = some (v, hx) ∧ f_X8_count_58 0 fuel2 s (nI r) hm = some (v, hm) := by
  intro k
  induction k with
  | zero =>
    intro fuel fuel2 r s e hf hf2
    obtain ⟨f, rfl⟩ : ∃ f, fuel = f + 1 := ⟨fuel - 1, by omega⟩
    obtain ⟨g, rfl⟩ : ∃ f, fuel2 = f + 1 := ⟨fuel2 - 1, by omega⟩
    rw [f_X5_present_4, f_X8_count_58, if_pos (show (8 : Int32) ≤ nI r from nI_le (a := 8) (by omega) (by omega)), if_pos (show (8 : Int32) ≤ nI r from nI_le (a := 8) (by omega) (by omega))]
    exact ⟨_, rfl, rfl⟩
  | succ k ih =>
    intro fuel fuel2 r s e hf hf2
    obtain ⟨f, rfl⟩ : ∃ f, fuel = f + 1 := ⟨fuel - 1, by omega⟩
    obtain ⟨g, rfl⟩ : ∃ f, fuel2 = f + 1 := ⟨fuel2 - 1, by omega⟩
    rw [f_X5_present_4, f_X8_count_58, if_neg (show ¬ (8 : Int32) ≤ nI r from nI_ge (b := 8) (by omega) (by decide)), if_neg (show ¬ (8 : Int32) ≤ nI r from nI_ge (b := 8) (by omega) (by decide))]
    rw [show (1 : Nat) = 0 + 1 from rfl, x_missing (show r < 8 by omega), bd_s, ck_nI _ (by omega) (by decide), cl_nI (by omega)]
    rcases hr r (by omega) with ⟨q1, q2⟩ | ⟨n, l, q1, q2, q3, q4, q5, q6, q7⟩
    · rw [q1, q2, if_pos rfl, if_neg n10, if_pos (show (-1 : Int32) < 0 by decide), lt_s2, lt_s2, lt_s2, lt_s2, nI_1]
      exact ih f g (r + 1) _ (by omega) (by omega) (by omega)
    · rw [q3, q5, if_neg (m1_ne (by omega)), if_pos rfl, if_neg (nI_pos (by omega)), lt_s2, lt_s2, lt_s2, lt_s2, nI_1]
      exact ih f g (r + 1) _ (by omega) (by omega) (by omega)
theorem ok_count (a0 : Int32) : OK2 Rel (fun h => f_X7_count 0 a0 h) (fun h => f_X8_count 0 a0 h) := by
  intro hx hm hR
  show ∃ r hx2 hm2, f_X7_count 0 a0 hx = some (r, hx2) ∧ f_X8_count 0 a0 hm = some (r, hm2) ∧ Rel hx2 hm2
  have hR1 := rel_thrown hR
  unfold f_X7_count f_X8_count f_X0_kept f_X6_size
  rw [lt_s2 (hset hm 0 0 0)]
  generalize hset hm 0 0 0 = hm1 at hR1 ⊢
  obtain ⟨σ, w, hC, hM, e7, o, n, ho, hn, e4, e5, e9, hs1, hch⟩ := hR1.2.2.2.1
  have hC : CQ hx 17 σ := hC
  have h6 := w.2.1
  rcases rg_cases a0 (n := 8) (by decide) with h1 | ⟨k, hk, rfl⟩
  · have ne : ∀ v : Nat, v < 8 → ¬ a0 = nI v := by
      intro v hv e
      rw [e, rg_in hv (by decide)] at h1
      exact absurd h1 (by decide)
    simp only [if_neg (show ¬ a0 = 0 from ne 0 (by decide)), if_neg (show ¬ a0 = 1 from ne 1 (by decide)), if_neg (show ¬ a0 = 2 from ne 2 (by decide)), if_neg (show ¬ a0 = 3 from ne 3 (by decide)), if_neg (show ¬ a0 = 4 from ne 4 (by decide)), if_neg (show ¬ a0 = 5 from ne 5 (by decide)), if_neg (show ¬ a0 = 6 from ne 6 (by decide)), if_neg (show ¬ a0 = 7 from ne 7 (by decide))]
    exact ⟨_, _, _, rfl, rfl, hR1⟩
  rcases (show k = 0 ∨ k = 1 ∨ k = 2 ∨ k = 3 ∨ k = 4 ∨ k = 5 ∨ k = 6 ∨ k = 7 by omega) with rfl | rfl | rfl | rfl | rfl | rfl | rfl | rfl
  · obtain ⟨v, r1, r2⟩ := rows_loop hR1.2.1 8 fu fu 0 0 (by decide) (fu_ge _ (by decide)) (fu_ge _ (by decide))
    rw [if_pos (show nI 0 = 0 from rfl), if_pos (show nI 0 = 0 from rfl)]
    unfold f_X5_present
    rw [show (0 : Int32) = nI 0 from rfl] at r1 r2 ⊢
    rw [Nat.zero_add, r1, r2, bd_s]
    exact ⟨_, _, _, rfl, rfl, hR1⟩
  · simp (disch := omega) only [lt_s2, bd_s, bh_s, gz_0, gz_1, L0, L1, L2, L3, L4, L5, L6, L7, L8, L9, L10, L11, L12, L13, L14, L15, L16, L17, L18, L19, L20, L21, L22, L23, L24, L30, L31, L32, L36, L39, L40, L48, L57, L58, L59, L71, L72, L97, L99, L100, L122, L143, L144, L255, L320, L500, L720, L1000, L2300, L2400, nI_add, pk_mul, nI_leI, nI_ltI, nI_eqI, ck_nI, cl_nI, Nat.zero_add, Nat.add_zero, Nat.reduceAdd, Nat.reduceMul, if_pos, if_neg, if_true, if_false, nI_eqI, pk_sub, hM.1, Nat.reduceSub, show hx 17 1 = _ from hC.2.1]
    exact ⟨_, _, _, rfl, rfl, hR1⟩
  · simp (disch := omega) only [lt_s2, bd_s, bh_s, gz_0, gz_1, L0, L1, L2, L3, L4, L5, L6, L7, L8, L9, L10, L11, L12, L13, L14, L15, L16, L17, L18, L19, L20, L21, L22, L23, L24, L30, L31, L32, L36, L39, L40, L48, L57, L58, L59, L71, L72, L97, L99, L100, L122, L143, L144, L255, L320, L500, L720, L1000, L2300, L2400, nI_add, pk_mul, nI_leI, nI_ltI, nI_eqI, ck_nI, cl_nI, Nat.zero_add, Nat.add_zero, Nat.reduceAdd, Nat.reduceMul, if_pos, if_neg, if_true, if_false, nI_eqI, pk_sub, hM.2.1, Nat.reduceSub, show hx 17 2 = _ from hC.2.2.1]
    exact ⟨_, _, _, rfl, rfl, hR1⟩
  · simp (disch := omega) only [lt_s2, bd_s, bh_s, gz_0, gz_1, L0, L1, L2, L3, L4, L5, L6, L7, L8, L9, L10, L11, L12, L13, L14, L15, L16, L17, L18, L19, L20, L21, L22, L23, L24, L30, L31, L32, L36, L39, L40, L48, L57, L58, L59, L71, L72, L97, L99, L100, L122, L143, L144, L255, L320, L500, L720, L1000, L2300, L2400, nI_add, pk_mul, nI_leI, nI_ltI, nI_eqI, ck_nI, cl_nI, Nat.zero_add, Nat.add_zero, Nat.reduceAdd, Nat.reduceMul, if_pos, if_neg, if_true, if_false, nI_eqI, pk_sub, hM.2.2.1, Nat.reduceSub, show hx 17 3 = _ from hC.2.2.2.1]
    exact ⟨_, _, _, rfl, rfl, hR1⟩
  · simp (disch := omega) only [lt_s2, bd_s, bh_s, gz_0, gz_1, L0, L1, L2, L3, L4, L5, L6, L7, L8, L9, L10, L11, L12, L13, L14, L15, L16, L17, L18, L19, L20, L21, L22, L23, L24, L30, L31, L32, L36, L39, L40, L48, L57, L58, L59, L71, L72, L97, L99, L100, L122, L143, L144, L255, L320, L500, L720, L1000, L2300, L2400, nI_add, pk_mul, nI_leI, nI_ltI, nI_eqI, ck_nI, cl_nI, Nat.zero_add, Nat.add_zero, Nat.reduceAdd, Nat.reduceMul, if_pos, if_neg, if_true, if_false, nI_eqI, e5, e9]
    exact ⟨_, _, _, rfl, rfl, hR1⟩
  · have hf : ∀ i, i < σ 0 1 → σ 10 i ≤ 1 := fun i hi => (wf_b w hi).2.2.2.2
    have hl := bs_lt hf
    have h64 : 2 ^ σ 0 1 ≤ 64 := Nat.pow_le_pow_right (by decide) h6
    have e := m_gone hM w (σ 0 1) fu 0 (by omega) (fu_ge _ (by omega))
    simp (disch := omega) only [lt_s2, bd_s, bh_s, gz_0, gz_1, L0, L1, L2, L3, L4, L5, L6, L7, L8, L9, L10, L11, L12, L13, L14, L15, L16, L17, L18, L19, L20, L21, L22, L23, L24, L30, L31, L32, L36, L39, L40, L48, L57, L58, L59, L71, L72, L97, L99, L100, L122, L143, L144, L255, L320, L500, L720, L1000, L2300, L2400, nI_add, pk_mul, nI_leI, nI_ltI, nI_eqI, ck_nI, cl_nI, Nat.zero_add, Nat.add_zero, Nat.reduceAdd, Nat.reduceMul, if_pos, if_neg, if_true, if_false, nI_eqI, show hx 17 6 = _ from hC.2.2.2.2.2.2.1, x_bitCount, pop_bs h6 hf]
    exact ⟨_, _, _, rfl, e, hR1⟩
  · simp (disch := omega) only [lt_s2, bd_s, bh_s, gz_0, gz_1, L0, L1, L2, L3, L4, L5, L6, L7, L8, L9, L10, L11, L12, L13, L14, L15, L16, L17, L18, L19, L20, L21, L22, L23, L24, L30, L31, L32, L36, L39, L40, L48, L57, L58, L59, L71, L72, L97, L99, L100, L122, L143, L144, L255, L320, L500, L720, L1000, L2300, L2400, nI_add, pk_mul, nI_leI, nI_ltI, nI_eqI, ck_nI, cl_nI, Nat.zero_add, Nat.add_zero, Nat.reduceAdd, Nat.reduceMul, if_pos, if_neg, if_true, if_false, nI_eqI, hM.2.2.2.1, show hx 17 4 = _ from hC.2.2.2.2.1]
    exact ⟨_, _, _, rfl, rfl, hR1⟩
  · obtain ⟨t, ht, f1, f2, f3⟩ := hR1.2.2.1
    simp (disch := omega) only [lt_s2, bd_s, bh_s, gz_0, gz_1, L0, L1, L2, L3, L4, L5, L6, L7, L8, L9, L10, L11, L12, L13, L14, L15, L16, L17, L18, L19, L20, L21, L22, L23, L24, L30, L31, L32, L36, L39, L40, L48, L57, L58, L59, L71, L72, L97, L99, L100, L122, L143, L144, L255, L320, L500, L720, L1000, L2300, L2400, nI_add, pk_mul, nI_leI, nI_ltI, nI_eqI, ck_nI, cl_nI, Nat.zero_add, Nat.add_zero, Nat.reduceAdd, Nat.reduceMul, if_pos, if_neg, if_true, if_false, nI_eqI, f1, f2]
    exact ⟨_, _, _, rfl, rfl, hR1⟩
