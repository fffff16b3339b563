-- images
theorem CR_congr {c0 c1 c2 c3 c4 c5 c6 c7 c8 d0 d1 d2 d3 d4 d5 d6 d7 d8 : Nat → Int32} {σ : Sg} (w : WFs σ) (g0 : ∀ j, j < 7 → d0 j = c0 j) (g1 : ∀ j, j < 12 → d1 j = c1 j) (g2 : ∀ j, j < 12 → d2 j = c2 j) (g3 : ∀ j, j < 6 → d3 j = c3 j) (g4 : ∀ j, j < 6 → d4 j = c4 j) (g5 : ∀ j, j < 6 → d5 j = c5 j) (g6 : ∀ j, j < 6 → d6 j = c6 j) (g7 : ∀ j, j < 24 → d7 j = c7 j) (g8 : ∀ j, j < 24 → d8 j = c8 j) (hC : CR c0 c1 c2 c3 c4 c5 c6 c7 c8 σ) : CR d0 d1 d2 d3 d4 d5 d6 d7 d8 σ := by
  have h6 := w.1
  have h6b := w.2.1
  obtain ⟨w1, w2, w3, w4, w5, w6, w7, w8, w9, w10, w11⟩ := hC
  refine ⟨by rw [g0 _ (by decide)]; exact w1, by rw [g0 _ (by decide)]; exact w2, by rw [g0 _ (by decide)]; exact w3, by rw [g0 _ (by decide)]; exact w4, by rw [g0 _ (by decide)]; exact w5, by rw [g0 _ (by decide)]; exact w6, by rw [g0 _ (by decide)]; exact w7, fun t ht => by rw [g1 _ ht]; exact w8 t ht, fun a ha => ?_, fun b hb => ?_, fun d t hd ht => ?_⟩
  · rw [g2 _ (by omega), g2 _ (by omega), g3 _ (by omega), g4 _ (by omega)]; exact w9 a ha
  · rw [g5 _ (by omega), g6 _ (by omega)]
    exact ⟨(w10 b hb).1, (w10 b hb).2.1, fun t ht => by rw [g7 _ (by omega)]; exact (w10 b hb).2.2 t ht⟩
  · rw [g8 _ (by omega)]; exact w11 d t hd ht
theorem cp_step (h : AH) (a b n : Nat) (hn : n < 2 ^ 31) : ∃ h2 : AH, cpy h a n (nI 0) b n (nI 0) (nI n) = some h2 ∧ (∀ c, c ≠ b → h2 c = h c) ∧ (∀ j, j < n → h2 b j = h a j) := by
  refine ⟨_, bl_cpy h a n b n 0 0 n (by omega) (by omega) hn hn, fun c hc => hput_ne _ _ hc, fun j hj => ?_⟩
  rw [hput_self, pk_cpy_in (by omega) (by omega), Nat.zero_add, Nat.sub_zero]
theorem x_become {h : AH} {q r : Nat} {σ : Sg} (hd : q + 8 < r ∨ r + 8 < q) (w : WFs σ) (hC : CQ h r σ) : ∃ h2 : AH, f_X2_become q r h = some ((), h2) ∧ (∀ c, ¬ (q ≤ c ∧ c ≤ q + 8) → h2 c = h c) ∧ CQ h2 q σ := by
  have h4 := w.2.2.2.1
  unfold f_X2_become
  rw [lt_s2, show h r 0 = _ from hC.1, gz_nI (by omega)]
  simp (disch := omega) only [lt_s2, hs_cell]
  obtain ⟨g, hg⟩ : ∃ g, g = hset (hset (hset (hset (hset (hset (hset h q 0 (nI (σ 0 4))) q 1 (h r 1)) q 2 (h r 2)) q 3 (h r 3)) q 4 (h r 4)) q 5 (h r 5)) q 6 (h r 6) := ⟨_, rfl⟩
  rw [← hg]
  have gc : ∀ c, c ≠ q → g c = h c := fun c hc => by
    rw [hg, hs_cell _ _ _ _ _ hc, hs_cell _ _ _ _ _ hc, hs_cell _ _ _ _ _ hc, hs_cell _ _ _ _ _ hc, hs_cell _ _ _ _ _ hc, hs_cell _ _ _ _ _ hc, hs_cell _ _ _ _ _ hc]
  have gq : ∀ j, j < 7 → g q j = h r j := fun j hj => by
    rw [hg]
    rcases (show j = 0 ∨ j = 1 ∨ j = 2 ∨ j = 3 ∨ j = 4 ∨ j = 5 ∨ j = 6 by omega) with rfl | rfl | rfl | rfl | rfl | rfl | rfl
    · rw [hs_place _ _ _ _ _ (by decide), hs_place _ _ _ _ _ (by decide), hs_place _ _ _ _ _ (by decide), hs_place _ _ _ _ _ (by decide), hs_place _ _ _ _ _ (by decide), hs_place _ _ _ _ _ (by decide), hs_self]; exact hC.1.symm
    · rw [hs_place _ _ _ _ _ (by decide), hs_place _ _ _ _ _ (by decide), hs_place _ _ _ _ _ (by decide), hs_place _ _ _ _ _ (by decide), hs_place _ _ _ _ _ (by decide), hs_self]
    · rw [hs_place _ _ _ _ _ (by decide), hs_place _ _ _ _ _ (by decide), hs_place _ _ _ _ _ (by decide), hs_place _ _ _ _ _ (by decide), hs_self]
    · rw [hs_place _ _ _ _ _ (by decide), hs_place _ _ _ _ _ (by decide), hs_place _ _ _ _ _ (by decide), hs_self]
    · rw [hs_place _ _ _ _ _ (by decide), hs_place _ _ _ _ _ (by decide), hs_self]
    · rw [hs_place _ _ _ _ _ (by decide), hs_self]
    · rw [hs_self]
  obtain ⟨h1, e1, c1, k1⟩ := cp_step g (r + 1) (q + 1) 12 (by decide)
  obtain ⟨h2, e2, c2, k2⟩ := cp_step h1 (r + 2) (q + 2) 12 (by decide)
  obtain ⟨h3, e3, c3, k3⟩ := cp_step h2 (r + 3) (q + 3) 6 (by decide)
  obtain ⟨h4, e4, c4, k4⟩ := cp_step h3 (r + 4) (q + 4) 6 (by decide)
  obtain ⟨h5, e5, c5, k5⟩ := cp_step h4 (r + 5) (q + 5) 6 (by decide)
  obtain ⟨h6, e6, c6, k6⟩ := cp_step h5 (r + 6) (q + 6) 6 (by decide)
  obtain ⟨h7, e7, c7, k7⟩ := cp_step h6 (r + 7) (q + 7) 24 (by decide)
  obtain ⟨h8, e8, c8, k8⟩ := cp_step h7 (r + 8) (q + 8) 24 (by decide)
  rw [show (0 : Int32) = nI 0 from rfl, show (12 : Int32) = nI 12 from rfl, show (6 : Int32) = nI 6 from rfl, show (24 : Int32) = nI 24 from rfl, e1, bh_s, e2, bh_s, e3, bh_s, e4, bh_s, e5, bh_s, e6, bh_s, e7, bh_s, e8, bh_s]
  refine ⟨h8, rfl, fun c hc => ?_, CR_congr w (c0 := h r) (c1 := h (r + 1)) (c2 := h (r + 2)) (c3 := h (r + 3)) (c4 := h (r + 4)) (c5 := h (r + 5)) (c6 := h (r + 6)) (c7 := h (r + 7)) (c8 := h (r + 8)) (fun j hj => ?_) (fun j hj => ?_) (fun j hj => ?_) (fun j hj => ?_) (fun j hj => ?_) (fun j hj => ?_) (fun j hj => ?_) (fun j hj => ?_) (fun j hj => ?_) hC⟩
  · rw [c8 _ (by omega), c7 _ (by omega), c6 _ (by omega), c5 _ (by omega), c4 _ (by omega), c3 _ (by omega), c2 _ (by omega), c1 _ (by omega), gc _ (by omega)]
  · rw [c8 _ (by omega), c7 _ (by omega), c6 _ (by omega), c5 _ (by omega), c4 _ (by omega), c3 _ (by omega), c2 _ (by omega), c1 _ (by omega), gq _ hj]
  · rw [c8 _ (by omega), c7 _ (by omega), c6 _ (by omega), c5 _ (by omega), c4 _ (by omega), c3 _ (by omega), c2 _ (by omega), k1 j hj, gc _ (by omega)]
  · rw [c8 _ (by omega), c7 _ (by omega), c6 _ (by omega), c5 _ (by omega), c4 _ (by omega), c3 _ (by omega), k2 j hj, c1 _ (by omega), gc _ (by omega)]
  · rw [c8 _ (by omega), c7 _ (by omega), c6 _ (by omega), c5 _ (by omega), c4 _ (by omega), k3 j hj, c2 _ (by omega), c1 _ (by omega), gc _ (by omega)]
  · rw [c8 _ (by omega), c7 _ (by omega), c6 _ (by omega), c5 _ (by omega), k4 j hj, c3 _ (by omega), c2 _ (by omega), c1 _ (by omega), gc _ (by omega)]
  · rw [c8 _ (by omega), c7 _ (by omega), c6 _ (by omega), k5 j hj, c4 _ (by omega), c3 _ (by omega), c2 _ (by omega), c1 _ (by omega), gc _ (by omega)]
  · rw [c8 _ (by omega), c7 _ (by omega), k6 j hj, c5 _ (by omega), c4 _ (by omega), c3 _ (by omega), c2 _ (by omega), c1 _ (by omega), gc _ (by omega)]
  · rw [c8 _ (by omega), k7 j hj, c6 _ (by omega), c5 _ (by omega), c4 _ (by omega), c3 _ (by omega), c2 _ (by omega), c1 _ (by omega), gc _ (by omega)]
  · rw [k8 j hj, c7 _ (by omega), c6 _ (by omega), c5 _ (by omega), c4 _ (by omega), c3 _ (by omega), c2 _ (by omega), c1 _ (by omega), gc _ (by omega)]
theorem m_image30 (k : Nat) (hk : k < 2) : ∀ (n fuel i : Nat) (h : AH), i + n = 100 → n < fuel → f_X8_image_30 0 fuel (nI k) (nI i) h = some (1, hset (hput h 17 (fun j => if 100 * k + i ≤ j ∧ j < 100 * k + 100 then h 4 (j - 100 * k) else h 17 j)) 16 k (nI 1)) := by
  intro n
  induction n with
  | zero =>
    intro fuel i h e hf
    obtain ⟨f, rfl⟩ : ∃ f, fuel = f + 1 := ⟨fuel - 1, by omega⟩
    rw [f_X8_image_30, if_pos (show (100 : Int32) ≤ nI i from nI_le (a := 100) (by omega) (by omega)), ck_nI _ hk (by decide), cl_nI (by omega), lt_s2, show (fun j => if 100 * k + i ≤ j ∧ j < 100 * k + 100 then h 4 (j - 100 * k) else h 17 j) = h 17 from funext fun j => if_neg (by omega), hput_id]
    rfl
  | succ n ih =>
    intro fuel i h e hf
    obtain ⟨f, rfl⟩ : ∃ f, fuel = f + 1 := ⟨fuel - 1, by omega⟩
    rw [f_X8_image_30, if_neg (show ¬ (100 : Int32) ≤ nI i from nI_ge (b := 100) (by omega) (by decide)), ck_nI _ (by omega) (by decide), lt_s2, show (100 : Int32) = nI 100 from rfl, pk_mul, nI_add, ck_nI _ (by omega) (by decide), cl_nI (by omega), cl_nI (by omega), lt_s2, lt_s2, nI_1, Nat.zero_add, Nat.zero_add, ih f (i + 1) _ (by omega) (by omega), hput_hset, hs_cell _ _ _ _ 4 (by decide), hs_row]
    congr 4
    funext j
    unfold upd
    by_cases c : j = 100 * k + i
    · subst c
      rw [if_neg (by omega), if_pos rfl, if_pos (by omega)]
      congr 1
      omega
    · rw [if_neg c]
      by_cases c2 : 100 * k + (i + 1) ≤ j ∧ j < 100 * k + 100
      · rw [if_pos c2, if_pos (by omega)]
      · rw [if_neg c2, if_neg (by omega)]
theorem m_restore32 (k : Nat) (hk : k < 2) : ∀ (n fuel i : Nat) (h : AH), i + n = 100 → n < fuel → f_X8_restore_32 0 fuel (nI k) (nI i) h = some (1, hset (hput h 4 (fun j => if i ≤ j ∧ j < 100 then h 17 (100 * k + j) else h 4 j)) 0 9 0) := by
  intro n
  induction n with
  | zero =>
    intro fuel i h e hf
    obtain ⟨f, rfl⟩ : ∃ f, fuel = f + 1 := ⟨fuel - 1, by omega⟩
    rw [f_X8_restore_32, if_pos (show (100 : Int32) ≤ nI i from nI_le (a := 100) (by omega) (by omega)), lt_s2, show (fun j => if i ≤ j ∧ j < 100 then h 17 (100 * k + j) else h 4 j) = h 4 from funext fun j => if_neg (by omega), hput_id]
  | succ n ih =>
    intro fuel i h e hf
    obtain ⟨f, rfl⟩ : ∃ f, fuel = f + 1 := ⟨fuel - 1, by omega⟩
    rw [f_X8_restore_32, if_neg (show ¬ (100 : Int32) ≤ nI i from nI_ge (b := 100) (by omega) (by decide)), lt_s2, show (100 : Int32) = nI 100 from rfl, pk_mul, nI_add, ck_nI _ (by omega) (by decide), ck_nI _ (by omega) (by decide), cl_nI (by omega), cl_nI (by omega), lt_s2, lt_s2, nI_1, Nat.zero_add, Nat.zero_add, ih f (i + 1) _ (by omega) (by omega), hput_hset, hs_cell _ _ _ _ 17 (by decide), hs_row]
    congr 4
    funext j
    unfold upd
    by_cases c : j = i
    · subst c
      rw [if_neg (by omega), if_pos rfl, if_pos (by omega)]
    · rw [if_neg c]
      by_cases c2 : i + 1 ≤ j ∧ j < 100
      · rw [if_pos c2, if_pos (by omega)]
      · rw [if_neg c2, if_neg (by omega)]
theorem x_isImage (x : Int32) (h : AH) : f_X7_isImage x h = some (rg x 2, h) := by
  unfold f_X7_isImage
  rcases rg_cases x (n := 2) (by decide) with h1 | ⟨k, hk, rfl⟩
  · have ne : ∀ v : Nat, v < 2 → ¬ x = nI v := by
      intro v hv e
      rw [e, rg_in hv (by decide)] at h1
      exact absurd h1 (by decide)
    rw [if_neg (show ¬ x = 0 from ne 0 (by decide)), if_neg (show ¬ x = 1 from ne 1 (by decide)), h1]
  · rw [rg_in hk (by decide)]
    rcases (show k = 0 ∨ k = 1 by omega) with rfl | rfl
    · rw [if_pos (show nI 0 = 0 from rfl)]
    · rw [if_neg (show ¬ nI 1 = 0 from n10), if_pos (show nI 1 = 1 from rfl)]
theorem x_img0 (h : AH) : f_X7_imageOf 0 (nI 0) h = some (26, h) := rfl
theorem x_img1 (h : AH) : f_X7_imageOf 0 (nI 1) h = some (35, h) := by
  unfold f_X7_imageOf
  rw [if_neg (show ¬ nI 1 = 0 from n10)]
theorem ok_image (a0 : Int32) : OK2 Rel (fun h => f_X7_image 0 a0 h) (fun h => f_X8_image 0 a0 h) := by
  intro hx hm hR
  show ∃ r hx2 hm2, f_X7_image 0 a0 hx = some (r, hx2) ∧ f_X8_image 0 a0 hm = some (r, hm2) ∧ Rel hx2 hm2
  have hR1 := rel_thrown hR
  unfold f_X7_image f_X8_image
  rw [lt_s2 (hset hm 0 0 0)]
  generalize hset hm 0 0 0 = hm1 at hR1 ⊢
  obtain ⟨σ, w, hC, hM, e7, o, n, ho, hn, e4, e5, e9, hs1, hch⟩ := hR1.2.2.2.1
  have hC : CQ hx 17 σ := hC
  have h41 := w.2.2.2.1
  have hI1 := hR1.2.2.2.2.1
  have hI2 := hR1.2.2.2.2.2.1
  rw [x_isImage, m_in1, bd_s, bd_s, Nat.zero_add, show hx 17 0 = _ from hC.1, e7]
  rcases rg_cases a0 (n := 2) (by decide) with h0 | ⟨k, hk, rfl⟩
  · rw [h0, if_pos rfl, if_pos rfl]
    exact ⟨_, _, _, rfl, rfl, hR1⟩
  rw [rg_in hk (by decide), if_neg n10, if_neg n10]
  by_cases c0 : σ 0 4 = 0
  · rw [c0, if_n0, if_n0]
    exact ⟨_, _, _, rfl, rfl, hR1⟩
  have hst : σ 0 4 = 1 := by omega
  rw [hst, if_n1, if_n1, show (0 : Int32) = nI 0 from rfl, m_image30 k hk 100 fu 0 _ (by omega) (fu_ge _ (by omega)), Nat.add_zero]
  rcases (show k = 0 ∨ k = 1 by omega) with rfl | rfl
  · obtain ⟨h2, q1, q2, q3⟩ := x_become (q := 26) (r := 17) (by decide) w hC
    rw [x_img0, bd_s, q1, bd_s]
    refine ⟨_, _, _, rfl, rfl, rel_img1 hR1 (fun c c1 c2 c3 c4 c5 c6 c7 c8 c9 => q2 c (by omega)) (fun c c0 c1 c2 => by rw [hs_cell _ _ _ _ _ c1, hput_ne _ _ c2]) (fun j j0 => by rw [hs_cell _ _ _ _ _ (by decide), hput_ne _ _ (by decide)]) ⟨σ, w, q3, ?_, ?_⟩ ?_ ?_⟩
    · rw [hs_cell _ _ _ _ _ (by decide), hput_self]
      refine MR_congr w (fun j hj => ?_) hM
      rw [if_pos (by omega)]
      congr 1 <;> omega
    · rw [hs_self, hst]
    · rw [hs_place _ _ _ _ _ (by decide), hs_cell _ _ _ _ 17 (by decide), hput_ne _ _ (by decide), hput_self]
      obtain ⟨τ, t1, t2, t3, t4⟩ := hI2
      refine ⟨τ, t1, ?_, MR_congr t1 (fun j hj => ?_) t3, t4⟩
      · rw [q2 35 (by decide), q2 36 (by decide), q2 37 (by decide), q2 38 (by decide), q2 39 (by decide), q2 40 (by decide), q2 41 (by decide), q2 42 (by decide), q2 43 (by decide)]
        exact t2
      · rw [if_neg (by omega)]
    · intro j hj
      rw [hs_cell _ _ _ _ 0 (by decide), hput_ne _ _ (by decide), e7, hst]
      exact Or.inr rfl
  · obtain ⟨h2, q1, q2, q3⟩ := x_become (q := 35) (r := 17) (by decide) w hC
    rw [x_img1, bd_s, q1, bd_s]
    refine ⟨_, _, _, rfl, rfl, rel_img2 hR1 (fun c c1 c2 c3 c4 c5 c6 c7 c8 c9 => q2 c (by omega)) (fun c c0 c1 c2 => by rw [hs_cell _ _ _ _ _ c1, hput_ne _ _ c2]) (fun j j0 => by rw [hs_cell _ _ _ _ _ (by decide), hput_ne _ _ (by decide)]) ?_ ⟨σ, w, q3, ?_, ?_⟩ ?_⟩
    · rw [hs_place _ _ _ _ _ (by decide), hs_cell _ _ _ _ 17 (by decide), hput_ne _ _ (by decide), hput_self]
      obtain ⟨τ, t1, t2, t3, t4⟩ := hI1
      refine ⟨τ, t1, ?_, MR_congr t1 (fun j hj => ?_) t3, t4⟩
      · rw [q2 26 (by decide), q2 27 (by decide), q2 28 (by decide), q2 29 (by decide), q2 30 (by decide), q2 31 (by decide), q2 32 (by decide), q2 33 (by decide), q2 34 (by decide)]
        exact t2
      · rw [if_neg (by omega)]
    · rw [hs_cell _ _ _ _ _ (by decide), hput_self]
      refine MR_congr w (fun j hj => ?_) hM
      rw [if_pos (by omega)]
      congr 1 <;> omega
    · rw [hs_self, hst]
    · intro j hj
      rw [hs_cell _ _ _ _ 0 (by decide), hput_ne _ _ (by decide), e7, hst]
      exact Or.inr rfl
theorem restore_one {hx hm1 : AH} (hR1 : Rel hx hm1) {k r : Nat} (hk : k < 2) (hr : 25 < r) {τ : Sg} (w : WFs τ) (hC : CQ hx r τ) (hM : MR (fun j => hm1 17 (100 * k + j)) τ) (hst : τ 0 4 = 1) (e7 : hm1 0 7 = nI 1) : ∃ hx2 hm2, (bd (f_X2_become 17 r hx) (fun _ h_8 => bd (f_X0_forget 44 h_8) (fun _ h_11 => some ((1 : Int32), h_11)))) = some (1, hx2) ∧ f_X8_restore_32 0 fu (nI k) 0 hm1 = some (1, hm2) ∧ Rel hx2 hm2 := by
  obtain ⟨h2, q1, q2, q3⟩ := x_become (q := 17) (r := r) (by omega) w hC
  obtain ⟨σ, wσ, hCσ, hMσ, e7σ, o, n, ho, hn, e4, e5, e9, hs1, hch⟩ := hR1.2.2.2.1
  unfold f_X0_forget
  rw [q1, bd_s, lt_s2, bd_s, show (0 : Int32) = nI 0 from rfl, m_restore32 k hk 100 fu 0 _ (by omega) (fu_ge _ (by omega))]
  refine ⟨_, _, rfl, rfl, rel_act (τ := τ) hR1 (fun c c1 c2 => ?_) (fun c c0 c4 c6 => ?_) (fun j j0 j7 j9 => ?_) ⟨w, ?_, ?_, ?_, o, 0, ho, by omega, ?_, ?_, ?_, fun z => absurd z (Nat.lt_irrefl 0), trivial⟩ hst⟩
  · rw [hs_cell _ _ _ _ _ (by omega), q2 c (by omega)]
  · rw [hs_cell _ _ _ _ _ c0, hput_ne _ _ c4]
  · rw [hs_place _ _ _ _ _ j9, hput_ne _ _ (by decide)]
  · rw [hs_cell _ _ _ _ 17 (by decide), hs_cell _ _ _ _ 18 (by decide), hs_cell _ _ _ _ 19 (by decide), hs_cell _ _ _ _ 20 (by decide), hs_cell _ _ _ _ 21 (by decide), hs_cell _ _ _ _ 22 (by decide), hs_cell _ _ _ _ 23 (by decide), hs_cell _ _ _ _ 24 (by decide), hs_cell _ _ _ _ 25 (by decide)]
    exact q3
  · rw [hs_cell _ _ _ _ _ (by decide), hput_self]
    refine MR_congr w (fun j hj => ?_) hM
    rw [if_pos (by omega)]
  · rw [hs_place _ _ _ _ _ (by decide), hput_ne _ _ (by decide), e7, hst]
  · rw [hs_place _ _ _ _ _ (by decide), q2 44 (by decide), e4]
  · rw [hs_self]
  · rw [hs_self]; rfl
theorem ok_restore (a0 : Int32) : OK2 Rel (fun h => f_X7_restore 0 a0 h) (fun h => f_X8_restore 0 a0 h) := by
  intro hx hm hR
  show ∃ r hx2 hm2, f_X7_restore 0 a0 hx = some (r, hx2) ∧ f_X8_restore 0 a0 hm = some (r, hm2) ∧ Rel hx2 hm2
  have hR1 := rel_thrown hR
  unfold f_X7_restore f_X8_restore
  rw [lt_s2 (hset hm 0 0 0)]
  generalize hset hm 0 0 0 = hm1 at hR1 ⊢
  have hJ := hR1.2.2.2.2.2.2.2.1
  rw [x_isImage, m_in1, bd_s, bd_s]
  rcases rg_cases a0 (n := 2) (by decide) with h0 | ⟨k, hk, rfl⟩
  · rw [h0, if_pos rfl, if_pos rfl]
    exact ⟨_, _, _, rfl, rfl, hR1⟩
  rw [rg_in hk (by decide), if_neg n10, if_neg n10, ck_nI _ hk (by decide), cl_nI (by omega), Nat.zero_add, Nat.zero_add, Nat.zero_add]
  rcases (show k = 0 ∨ k = 1 by omega) with rfl | rfl
  · obtain ⟨τ, w, hC, hM, e⟩ := hR1.2.2.2.2.1
    have h41 := w.2.2.2.1
    rw [x_img0, bd_s, show hx 26 0 = _ from hC.1, e]
    by_cases c0 : τ 0 4 = 0
    · rw [c0, if_n0, if_n0]
      exact ⟨_, _, _, rfl, rfl, hR1⟩
    have hst : τ 0 4 = 1 := by omega
    rw [hst, if_n1, if_n1, x_img0, bd_s]
    have e7 : hm1 0 7 = nI 1 := (hJ 0 (by decide)).resolve_left (by rw [e, hst]; decide)
    obtain ⟨hx2, hm2, z1, z2, z3⟩ := restore_one hR1 (k := 0) (r := 26) (by decide) (by decide) w hC (MR_congr w (fun j hj => by rw [Nat.mul_zero, Nat.zero_add]) hM) hst e7
    exact ⟨_, _, _, z1, z2, z3⟩
  · obtain ⟨τ, w, hC, hM, e⟩ := hR1.2.2.2.2.2.1
    have h41 := w.2.2.2.1
    rw [x_img1, bd_s, show hx 35 0 = _ from hC.1, e]
    by_cases c0 : τ 0 4 = 0
    · rw [c0, if_n0, if_n0]
      exact ⟨_, _, _, rfl, rfl, hR1⟩
    have hst : τ 0 4 = 1 := by omega
    rw [hst, if_n1, if_n1, x_img1, bd_s]
    have e7 : hm1 0 7 = nI 1 := (hJ 1 (by decide)).resolve_left (by rw [e, hst]; decide)
    obtain ⟨hx2, hm2, z1, z2, z3⟩ := restore_one hR1 (k := 1) (r := 35) (by decide) (by decide) w hC (MR_congr w (fun j hj => by rw [Nat.mul_one]) hM) hst e7
    exact ⟨_, _, _, z1, z2, z3⟩
