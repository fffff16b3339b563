theorem ok_split (a0 a1 : Int32) : OK2 Rel (fun h => f_X7_split 0 a0 a1 h) (fun h => f_X8_split 0 a0 a1 h) := by
  intro hx hm hR
  show ∃ r hx2 hm2, f_X7_split 0 a0 a1 hx = some (r, hx2) ∧ f_X8_split 0 a0 a1 hm = some (r, hm2) ∧ Rel hx2 hm2
  have hR1 := rel_thrown hR
  unfold f_X7_split f_X8_split f_X8_isTrade
  rw [lt_s2 (hset hm 0 0 0)]
  generalize hset hm 0 0 0 = hm1 at hR1 ⊢
  obtain ⟨σ, w, hC, hM, e7, o, n, ho, hn, e4, e5, e9, hs1, hch⟩ := hR1.2.2.2.1
  have hC : CQ hx 17 σ := hC
  have h6b := w.2.1
  simp only [Nat.zero_add, x_isBoat hC, m_isBoat hM w, x_isTrade, m_in3, gz_rg, bd_s]
  rcases rg_cases a0 (n := σ 0 1) (by omega) with h0 | ⟨b, hb, rfl⟩
  · simp only [h0, if_true]
    exact ⟨_, _, _, rfl, rfl, hR1⟩
  rcases rg_cases a1 (n := 4) (by omega) with h0 | ⟨u, hu, rfl⟩
  · simp only [h0, if_true, rg_in hb (show σ 0 1 < 2 ^ 31 by omega), if_neg n10]
    exact ⟨_, _, _, rfl, rfl, hR1⟩
  have hst := stands_of w (Or.inr (by omega))
  have hcm : hm1 4 (58 + 7 * b + 6) = nI (σ 10 b) := (hM.2.2.2.2.2.2 b hb).2.2.2
  have hgl := (wf_b w hb).2.2.2.2
  have h9 := (wf_b w hb).2.2.2.1 u hu
  have hal : al σ b < 100 := by
    have q := (wf_b w hb).2.2.2.1
    have q0 := q 0 (by decide); have q1 := q 1 (by decide); have q2 := q 2 (by decide); have q3 := q 3 (by decide)
    unfold al
    simp only [Nat.add_zero] at q0
    omega
  simp only [rg_in hb (show σ 0 1 < 2 ^ 31 by omega), rg_in hu (by decide), if_neg n10, x_isGone hC w hb, bd_s, L2, nI_add, ld_m hM hb h6b hu, L6, m_of hm1 (show b < 6 by omega) (show 6 < 7 by decide), hcm]
  rcases (show σ 10 b = 1 ∨ σ 10 b = 0 by omega) with g | g
  · simp only [g, show (nI 1 = 0) = False from eq_false n10, show (nI 1 = 1) = True from eq_true rfl, if_true, if_false]
    exact ⟨_, _, _, rfl, rfl, hR1⟩
  simp only [g, show (nI 0 = 1) = False from eq_false (by decide), show (nI 0 = 0) = True from eq_true rfl, if_true, if_false, ld_x hC hb h6b hu, bd_s]
  by_cases g2 : σ 9 (4 * b + u) = 0
  · simp only [g2, show (nI 0 = 0) = True from eq_true rfl, if_true]
    exact ⟨_, _, _, rfl, rfl, hR1⟩
  have g2' : ¬ nI (σ 9 (4 * b + u)) = 0 := fun z => g2 ((nI_eq (by omega) (by decide)).mp z)
  simp only [if_neg g2', x_isMixed hC w hb, m_allOf hM w hb, bd_s]
  have hma := mx_al b hu g2
  have e3 : (nI (σ 9 (4 * b + u)) = nI (al σ b)) = (mx σ b = 0) := propext ⟨fun z => hma.mpr ((nI_eq (by omega) (by omega)).mp z), fun z => by rw [hma.mp z]⟩
  simp only [e3]
  rcases mxd_01 (tr σ b) with g3 | g3
  · simp only [show mx σ b = 0 from g3, show (nI 0 = 0) = True from eq_true rfl, if_true]
    exact ⟨_, _, _, rfl, rfl, hR1⟩
  simp only [show mx σ b = 1 from g3, show (nI 1 = 0) = False from eq_false n10, show ((1 : Nat) = 0) = False from eq_false (by decide), if_false, show hx 17 2 = _ from hC.2.2.1, L1, ck_nI _ (show 1 < 100 by decide) (by decide), cl_nI (show 1 < 2 ^ 31 by decide), hM.2.1, lt_s2]
  by_cases g4 : σ 0 1 < 6
  · simp (disch := omega) only [nI_ltI, nI_eqI, if_pos g4, if_neg (show ¬ σ 0 1 = 6 by omega), x_splitOff hC w g4 hb hu, bd_s]
    obtain ⟨h2, q1, q2, q3, q4, q5, q6, q7, q8⟩ := x_keep (h := hput (hset (hset (hset hx 17 2 (nI (σ 0 1 + 1))) 22 (σ 0 1) (nI (σ 7 b))) 23 (σ 0 1) (nI (σ 8 b))) 24 (spl (hx 24) (σ 0 1) b u (nI (σ 9 (4 * b + u))))) ho hn (by rw [hput_ne _ _ (by decide), hs_cell _ _ _ _ _ (by decide), hs_cell _ _ _ _ _ (by decide), hs_cell _ _ _ _ _ (by decide)]; exact e4) (by rw [hput_ne _ _ (by decide), hs_cell _ _ _ _ _ (by decide), hs_cell _ _ _ _ _ (by decide), hs_cell _ _ _ _ _ (by decide)]; exact e5) 3 (nI b) (nI u) 0
    obtain ⟨hk, p1, p2, p3, p4, p5⟩ := m_keep hn e9
    have k4 := p2 4 (by decide) (by decide)
    have hMk : MR (hk 4) σ := by rw [k4]; exact hM
    simp only [q1, p1, bd_s]
    rw [m_split84 hMk w g4 hb hu]
    refine ⟨_, _, _, rfl, rfl, act_done (τ := tsp σ b u) hR1 w hM e7 ho hn hch hst (fun c c1 => by rw [hput_ne _ _ (by omega), hs_cell _ _ _ _ _ (by omega), hs_cell _ _ _ _ _ (by omega), hs_cell _ _ _ _ _ (by omega)]) q2 q3 q4 q5 q6 q7 q8 p2 p3 p4 p5 (fun c c4 => hput_ne _ _ c4) (WF_split w hst g4 hb hu) ?_ ?_ ?_ ?_⟩
    · rw [tsp_k (by decide)]; exact hst
    · exact Or.inr (Or.inr (Or.inr (Or.inl ⟨b, u, hb, hu, g4, rfl, rfl, rfl, fun i k => rfl⟩)))
    · have := CR_split hC w hb hu
      simp only [hset, hput, upd, reduceIte, Nat.reduceEqDiff, if_true, if_false, Nat.reduceAdd] at this ⊢
      exact this
    · rw [hput_self, k4]
      exact MR_split hM w hb hu
  · simp (disch := omega) only [nI_ltI, nI_eqI, if_neg g4, if_pos (show σ 0 1 = 6 by omega)]
    exact ⟨_, _, _, rfl, rfl, hR1⟩
-- undo
theorem MR_congr {w w2 : Nat → Int32} {σ : Sg} (wf : WFs σ) (g : ∀ j, j < 100 → w2 j = w j) (hM : MR w σ) : MR w2 σ := by
  obtain ⟨m0, m1, m2, m3, m4, m5, m6⟩ := hM
  have h6 := wf.1
  have h6b := wf.2.1
  refine ⟨by rw [g _ (by decide)]; exact m0, by rw [g _ (by decide)]; exact m1, by rw [g _ (by decide)]; exact m2, by rw [g _ (by decide)]; exact m3, fun t ht => by rw [g _ (by omega)]; exact m4 t ht, fun a ha => ?_, fun b hb => ?_⟩
  · have := m5 a ha
    rw [g _ (by omega), g _ (by omega), g _ (by omega), g _ (by omega), g _ (by omega), g _ (by omega), g _ (by omega)]
    exact this
  · have := m6 b hb
    rw [g _ (by omega), g _ (by omega), g _ (by omega)]
    exact ⟨this.1, this.2.1, fun t ht => by rw [g _ (by omega)]; exact this.2.2.1 t ht, this.2.2.2⟩
theorem m_undo27 (n : Nat) (hn : n < 24) : ∀ (k fuel i : Nat) (h : AH), i + k = 100 → k < fuel → h 0 9 = nI n → f_X8_undo_27 0 fuel (nI i) h = some (nI n, hput h 4 (fun j => if i ≤ j ∧ j < 100 then h 6 (100 * n + j) else h 4 j)) := by
  intro k
  induction k with
  | zero =>
    intro fuel i h e hf e9
    obtain ⟨f, rfl⟩ : ∃ f, fuel = f + 1 := ⟨fuel - 1, by omega⟩
    rw [f_X8_undo_27]
    simp (disch := omega) only [lt_s2, bd_s, bh_s, gz_0, gz_1, L0, L1, L2, L3, L4, L5, L6, L7, L8, L9, L10, L11, L12, L13, L14, L15, L16, L17, L18, L19, L20, L21, L22, L23, L24, L30, L31, L32, L36, L39, L40, L48, L57, L58, L59, L71, L72, L97, L99, L100, L122, L143, L144, L255, L320, L500, L720, L1000, L2300, L2400, nI_add, pk_mul, nI_leI, nI_ltI, nI_eqI, ck_nI, cl_nI, Nat.zero_add, Nat.add_zero, Nat.reduceAdd, Nat.reduceMul, if_pos, if_neg, if_true, if_false, e9]
    rw [show (fun j => h 4 j) = h 4 from rfl, hput_id]
  | succ k ih =>
    intro fuel i h e hf e9
    obtain ⟨f, rfl⟩ : ∃ f, fuel = f + 1 := ⟨fuel - 1, by omega⟩
    rw [f_X8_undo_27]
    simp (disch := omega) only [lt_s2, bd_s, bh_s, gz_0, gz_1, L0, L1, L2, L3, L4, L5, L6, L7, L8, L9, L10, L11, L12, L13, L14, L15, L16, L17, L18, L19, L20, L21, L22, L23, L24, L30, L31, L32, L36, L39, L40, L48, L57, L58, L59, L71, L72, L97, L99, L100, L122, L143, L144, L255, L320, L500, L720, L1000, L2300, L2400, nI_add, pk_mul, nI_leI, nI_ltI, nI_eqI, ck_nI, cl_nI, Nat.zero_add, Nat.add_zero, Nat.reduceAdd, Nat.reduceMul, if_pos, if_neg, if_true, if_false, e9]
    rw [ih f (i + 1) _ (by omega) (by omega) (by rw [hs_cell _ _ _ _ _ (by decide), e9]), hput_hset, hs_cell _ _ _ _ 6 (by decide), hs_row]
    congr 3
    funext j
    unfold upd
    by_cases c : j = i
    · subst c
      rw [if_neg (by omega), if_pos rfl, if_pos (by omega)]
    · rw [if_neg c]
      by_cases c2 : i + 1 ≤ j ∧ j < 100
      · rw [if_pos c2, if_pos (by omega)]
      · rw [if_neg c2, if_neg (by omega)]
theorem CR_back {c0 c1 c2 c3 c4 c5 c6 c7 c8 : Nat → Int32} {σ : Sg} {b a n : Nat} (hC : CR c0 c1 c2 c3 c4 c5 c6 c7 c8 (tps σ b a n)) (w : WFs σ) (ha : a < σ 0 0) : CR (upd (upd c0 6 (nI (bsum (σ 10) (σ 0 1)))) 4 (nI (σ 0 3))) c1 c2 c3 c4 c5 c6 c7 (upd c8 (12 * sd σ b + σ 0 2) (nI (bsum (fun k => σ 11 (72 * sd σ b + 6 * σ 0 2 + k)) (σ 0 0)))) σ := by
  unfold CR at hC
  rw [tps_ne (i := 1) (by decide), tps_ne (i := 2) (by decide), tps_ne (i := 3) (by decide), tps_ne (i := 4) (by decide), tps_ne (i := 5) (by decide), tps_ne (i := 6) (by decide), tps_ne (i := 7) (by decide), tps_ne (i := 8) (by decide), tps_ne (i := 9) (by decide), tps_k (k := 0) (by decide), tps_k (k := 1) (by decide), tps_k (k := 2) (by decide), tps_k (k := 4) (by decide), tps_3] at hC
  obtain ⟨w1, w2, w3, w4, w5, w6, w7, w8, w9, w10, w11⟩ := hC
  have hs := sd_lt σ b
  have h6 := w.1
  have h11 := w.2.2.1
  refine ⟨?_, ?_, ?_, ?_, ?_, ?_, ?_, w8, w9, w10, fun d t hd ht => ?_⟩
  · rw [pk_un (by decide), pk_un (by decide)]; exact w1
  · rw [pk_un (by decide), pk_un (by decide)]; exact w2
  · rw [pk_un (by decide), pk_un (by decide)]; exact w3
  · rw [pk_un (by decide), pk_un (by decide)]; exact w4
  · rw [pk_us]
  · rw [pk_un (by decide), pk_un (by decide)]; exact w6
  · rw [pk_un (by decide), pk_us]
  · by_cases c : 12 * d + t = 12 * sd σ b + σ 0 2
    · have e1 : d = sd σ b := by omega
      have e2 : t = σ 0 2 := by omega
      rw [e1, e2, pk_us]
    · rw [pk_un c, w11 d t hd ht]
      congr 1
      refine bs_congr (fun i hi => ?_)
      rw [tps_11, if_neg ?_]
      intro z
      apply c
      rcases (show d = 0 ∨ d = 1 by omega) with rfl | rfl <;> rcases (show sd σ b = 0 ∨ sd σ b = 1 by omega) with e | e <;> rw [e] at z ⊢ <;> omega
theorem CR_join {c0 c1 c2 c3 c4 c5 c6 c7 c8 : Nat → Int32} {σ : Sg} {b u : Nat} (hC : CR c0 c1 c2 c3 c4 c5 c6 c7 c8 (tsp σ b u)) (hb : b < σ 0 1) (hu : u < 4) : CR (upd c0 2 (nI (σ 0 1))) c1 c2 c3 c4 c5 c6 (upd c7 (4 * b + u) (nI (σ 9 (4 * b + u)))) c8 σ := by
  unfold CR at hC
  rw [tsp_ne (i := 1) (by decide), tsp_ne (i := 2) (by decide), tsp_ne (i := 3) (by decide), tsp_ne (i := 4) (by decide), tsp_ne (i := 5) (by decide), tsp_ne (i := 6) (by decide), tsp_ne (i := 11) (by decide), tsp_k (k := 0) (by decide), tsp_k (k := 2) (by decide), tsp_k (k := 3) (by decide), tsp_k (k := 4) (by decide), tsp_1] at hC
  obtain ⟨w1, w2, w3, w4, w5, w6, w7, w8, w9, w10, w11⟩ := hC
  refine ⟨?_, ?_, ?_, ?_, ?_, ?_, ?_, w8, w9, fun b' hb' => ?_, w11⟩
  · rw [pk_un (by decide)]; exact w1
  · rw [pk_un (by decide)]; exact w2
  · rw [pk_us]
  · rw [pk_un (by decide)]; exact w4
  · rw [pk_un (by decide)]; exact w5
  · rw [pk_un (by decide)]; exact w6
  · rw [pk_un (by decide), w7]
    show nI (bsum (tsp σ b u 10) (σ 0 1) + tsp σ b u 10 (σ 0 1) * 2 ^ σ 0 1) = _
    rw [tsp_10, if_pos rfl, Nat.zero_mul, Nat.add_zero]
    congr 1
    exact bs_congr (fun i hi => by rw [tsp_10, if_neg (by omega)])
  · obtain ⟨q1, q2, q3⟩ := w10 b' (by omega)
    rw [tsp_7, if_neg (by omega)] at q1
    rw [tsp_8, if_neg (by omega)] at q2
    refine ⟨q1, q2, fun t ht => ?_⟩
    by_cases c2 : 4 * b' + t = 4 * b + u
    · rw [c2, pk_us]
    · have := q3 t ht
      rw [tsp_9, if_neg (by omega), if_neg c2, if_neg (by omega)] at this
      rw [pk_un c2, this]
theorem CR_unhour {c0 c1 c2 c3 c4 c5 c6 c7 c8 : Nat → Int32} {σ : Sg} (hC : CR c0 c1 c2 c3 c4 c5 c6 c7 c8 (thr σ)) : CR (upd c0 3 (nI (σ 0 2))) c1 c2 c3 c4 c5 c6 c7 c8 σ := by
  unfold CR at hC
  rw [thr_ne (i := 1) (by decide), thr_ne (i := 2) (by decide), thr_ne (i := 3) (by decide), thr_ne (i := 4) (by decide), thr_ne (i := 5) (by decide), thr_ne (i := 6) (by decide), thr_ne (i := 7) (by decide), thr_ne (i := 8) (by decide), thr_ne (i := 9) (by decide), thr_ne (i := 10) (by decide), thr_ne (i := 11) (by decide), thr_k (k := 0) (by decide), thr_k (k := 1) (by decide), thr_k (k := 3) (by decide), thr_k (k := 4) (by decide), thr_2] at hC
  obtain ⟨w1, w2, w3, w4, w5, w6, w7, w8, w9, w10, w11⟩ := hC
  refine ⟨?_, ?_, ?_, ?_, ?_, ?_, ?_, w8, w9, w10, w11⟩
  · rw [pk_un (by decide)]; exact w1
  · rw [pk_un (by decide)]; exact w2
  · rw [pk_un (by decide)]; exact w3
  · rw [pk_us]
  · rw [pk_un (by decide)]; exact w5
  · rw [pk_un (by decide)]; exact w6
  · rw [pk_un (by decide)]; exact w7
theorem x_take {h : AH} {o n : Nat} (ho : o < 24) (hn : n < 24) (e4 : h 44 4 = nI o) (e5 : h 44 5 = nI (n + 1)) : f_X0_takeBack 44 17 h = (if h 45 ((o + n) % 24) = 0 then bd (f_X2_giveCharter 17 (h 47 ((o + n) % 24)) (h 46 ((o + n) % 24)) (h 48 ((o + n) % 24)) (hset h 44 5 (nI n))) (fun _ h2 => some ((), h2)) else if h 45 ((o + n) % 24) = 1 then bd (f_X7_withBit (h 17 5) (h 46 ((o + n) % 24)) (h 47 ((o + n) % 24)) (hset h 44 5 (nI n))) (fun v h2 => some ((), hset h2 17 5 v)) else if h 45 ((o + n) % 24) = 2 then bd (f_X2_comeBack 17 (h 46 ((o + n) % 24)) (h 47 ((o + n) % 24)) (h 48 ((o + n) % 24)) (hset h 44 5 (nI n))) (fun _ h2 => some ((), h2)) else if h 45 ((o + n) % 24) = 3 then bd (f_X2_joinLast 17 (h 46 ((o + n) % 24)) (h 47 ((o + n) % 24)) (hset h 44 5 (nI n))) (fun _ h2 => some ((), h2)) else some ((), hset (hset h 44 5 (nI n)) 17 3 (h 17 3 - 1))) := by
  have hm : (o + n) % 24 < 24 := Nat.mod_lt _ (by decide)
  unfold f_X0_takeBack
  rw [e5, if_neg (show ¬ nI (n + 1) = 0 from fun z => by have := (nI_eq (a := n + 1) (b := 0) (by omega) (by decide)).mp z; omega), nI_pred, lt_s2, hs_place _ _ _ _ _ (by decide), e4, hs_self, nI_add, lt_s2, L24, rem24 (by omega), lt_s2]
  simp (disch := omega) only [ck_nI, cl_nI, lt_s2, Nat.reduceAdd]
  simp only [hs_cell _ 44 _ _ 45 (by decide), hs_cell _ 44 _ _ 46 (by decide), hs_cell _ 44 _ _ 47 (by decide), hs_cell _ 44 _ _ 48 (by decide), hs_cell _ 44 _ _ 17 (by decide)]
theorem x_comeBack {h : AH} {σ : Sg} {b a n : Nat} (hC : CQ h 17 (tps σ b a n)) (w : WFs σ) (hst : σ 0 4 = 1) (hb : b < σ 0 1) (ha : a < σ 0 0) (g1 : σ 10 b = 0) (g2 : σ 11 (72 * sd σ b + 6 * σ 0 2 + a) = 0) : f_X2_comeBack 17 (nI b) (nI a) (nI n) h = some ((), hset (hset (hset h 17 6 (nI (bsum (σ 10) (σ 0 1)))) 25 (12 * sd σ b + σ 0 2) (nI (bsum (fun k => σ 11 (72 * sd σ b + 6 * σ 0 2 + k)) (σ 0 0)))) 17 4 (nI (σ 0 3))) := by
  have h6 := w.1
  have h6b := w.2.1
  have h11 := w.2.2.1
  have hs := sd_lt σ b
  have wt : WFs (tps σ b a n) := WF_pass w hst (by omega)
  unfold CQ CR at hC
  rw [tps_ne (i := 1) (by decide), tps_ne (i := 2) (by decide), tps_ne (i := 3) (by decide), tps_ne (i := 4) (by decide), tps_ne (i := 5) (by decide), tps_ne (i := 6) (by decide), tps_ne (i := 7) (by decide), tps_ne (i := 8) (by decide), tps_ne (i := 9) (by decide), tps_k (k := 0) (by decide), tps_k (k := 1) (by decide), tps_k (k := 2) (by decide), tps_k (k := 4) (by decide), tps_3] at hC
  have e1 := x_withBit (f := tps σ b a n 10) (g := σ 10) (n := σ 0 1) (v := 0) h6b (fun i hi => by have := (wf_b wt (b := i) (by rw [tps_k (by decide)]; exact hi)).2.2.2.2; exact this) hb (by decide) (fun i => by rw [tps_10]; by_cases c : i = b; rw [if_pos c, c, g1]; rw [if_neg c, if_neg c]) h
  have e2 := fun h' : AH => x_withBit (f := fun k => tps σ b a n 11 (72 * sd σ b + 6 * σ 0 2 + k)) (g := fun k => σ 11 (72 * sd σ b + 6 * σ 0 2 + k)) (n := σ 0 0) (v := 0) h6 (fun i hi => wf_w wt (by omega)) ha (by decide) (fun i => by
    show σ 11 (72 * sd σ b + 6 * σ 0 2 + i) = if i = a then 0 else tps σ b a n 11 (72 * sd σ b + 6 * σ 0 2 + i)
    rw [tps_11]
    by_cases c : i = a
    · rw [if_pos c, c, g2]
    · rw [if_neg c, if_neg (by omega)]) h'
  have e3 : ∀ v, f_X2_sideOf 17 (nI b) (hset h 17 6 v) = some (nI (sd σ b), hset h 17 6 v) := by
    intro v
    have h5 := (wf_b w hb).2.1
    unfold f_X2_sideOf sd
    rw [ck_nI _ (by omega) (by decide), cl_nI (by omega), hs_cell _ _ _ _ _ (by decide), (hC.2.2.2.2.2.2.2.2.2.1 b hb).1]
    by_cases c : σ 7 b < 4
    · simp (disch := omega) only [lt_s2, bd_s, bh_s, gz_0, gz_1, L0, L1, L2, L3, L4, L5, L6, L7, L8, L9, L10, L11, L12, L13, L14, L15, L16, L17, L18, L19, L20, L21, L22, L23, L24, L30, L31, L32, L36, L39, L40, L48, L57, L58, L59, L71, L72, L97, L99, L100, L122, L143, L144, L255, L320, L500, L720, L1000, L2300, L2400, nI_add, pk_mul, nI_leI, nI_ltI, nI_eqI, ck_nI, cl_nI, Nat.zero_add, Nat.add_zero, Nat.reduceAdd, Nat.reduceMul, if_pos, if_neg, if_true, if_false]
    · simp (disch := omega) only [lt_s2, bd_s, bh_s, gz_0, gz_1, L0, L1, L2, L3, L4, L5, L6, L7, L8, L9, L10, L11, L12, L13, L14, L15, L16, L17, L18, L19, L20, L21, L22, L23, L24, L30, L31, L32, L36, L39, L40, L48, L57, L58, L59, L71, L72, L97, L99, L100, L122, L143, L144, L255, L320, L500, L720, L1000, L2300, L2400, nI_add, pk_mul, nI_leI, nI_ltI, nI_eqI, ck_nI, cl_nI, Nat.zero_add, Nat.add_zero, Nat.reduceAdd, Nat.reduceMul, if_pos, if_neg, if_true, if_false]
  have e4 := hC.2.2.2.2.2.2.2.2.2.2 (sd σ b) (σ 0 2) hs (by omega)
  unfold f_X2_comeBack f_X2_markWent
  rw [show h 17 6 = _ from hC.2.2.2.2.2.2.1, show (0 : Int32) = nI 0 from rfl, e1, bd_s, lt_s2, e3, bd_s, lt_s2, hs_place _ _ _ _ _ (by decide), show h 17 3 = _ from hC.2.2.2.1, L12, pk_mul, nI_add, Nat.mul_comm (sd σ b) 12, ck_nI _ (by omega) (by decide), cl_nI (by omega), hs_cell _ _ _ _ _ (by decide)]
  rw [show h (17 + 8) (12 * sd σ b + σ 0 2) = _ from e4, e2, bd_s, ck_nI _ (by omega) (by decide), lt_s2, bd_s, lt_s2, hs_cell _ _ _ _ _ (by decide), hs_place _ _ _ _ _ (by decide), show h 17 4 = _ from hC.2.2.2.2.1, pk_sub (by omega), Nat.add_sub_cancel]
theorem CQ_off {h : AH} {σ : Sg} (hC : CQ h 17 σ) (v : Int32) : CQ (hset h 44 5 v) 17 σ := by
  unfold CQ at hC ⊢
  simp only [hs_cell _ 44 _ _ 17 (by decide), hs_cell _ 44 _ _ (17 + 1) (by decide), hs_cell _ 44 _ _ (17 + 2) (by decide), hs_cell _ 44 _ _ (17 + 3) (by decide), hs_cell _ 44 _ _ (17 + 4) (by decide), hs_cell _ 44 _ _ (17 + 5) (by decide), hs_cell _ 44 _ _ (17 + 6) (by decide), hs_cell _ 44 _ _ (17 + 7) (by decide), hs_cell _ 44 _ _ (17 + 8) (by decide)]
  exact hC
theorem x_back {h : AH} {σ τ : Sg} {o n : Nat} (ho : o < 24) (hn : n < 24) (e4 : h 44 4 = nI o) (e5 : h 44 5 = nI (n + 1)) (hC : CQ h 17 τ) (w : WFs σ) (hst : σ 0 4 = 1) (ar : AR (h 45 ((o + n) % 24)) (h 46 ((o + n) % 24)) (h 47 ((o + n) % 24)) (h 48 ((o + n) % 24)) σ τ) (wτ : WFs τ) : ∃ h2, f_X0_takeBack 44 17 h = some ((), h2) ∧ (∀ c, ¬ (17 ≤ c ∧ c ≤ 25) → c ≠ 44 → h2 c = h c) ∧ h2 44 4 = nI o ∧ h2 44 5 = nI n ∧ CQ h2 17 σ := by
  have h6 := w.1
  have h6b := w.2.1
  rw [x_take ho hn e4 e5]
  rcases ar with ⟨a, d, v, ha, hd, r1, r2, r3, r4, hv, rt⟩ | ⟨a, v, ha, r1, r2, r3, hv, rt⟩ | ⟨b, a, m, hb, ha, r1, r2, r3, r4, g1, g2, rt⟩ | ⟨b, u, hb, hu, h5, r1, r2, r3, rt⟩ | ⟨r1, h11, rt⟩
  · have eσ : tl τ d a (σ (2 + d) a) = σ := by
      funext i k
      unfold tl
      rw [rt i k]
      by_cases c : i = 2 + d ∧ k = a
      · rw [if_pos c, c.1, c.2]
      · rw [if_neg c, if_neg c]
    have e00 : τ 0 0 = σ 0 0 := by rw [rt 0 0, if_neg (by omega)]
    have hC2 := CR_lend (CQ_off hC (nI n)) (o := σ (2 + d) a) (by omega) hd (show a < τ 0 0 by omega)
    rw [eσ] at hC2
    rw [r1, r2, r3, r4, if_pos (show nI 0 = 0 from rfl), x_give _ hd (by omega), bd_s]
    refine ⟨_, rfl, fun c c1 c2 => by rw [hs_cell _ _ _ _ _ (by omega), hs_cell _ _ _ _ _ c2], ?_, ?_, ?_⟩
    · rw [hs_cell _ _ _ _ _ (by decide), hs_place _ _ _ _ _ (by decide)]; exact e4
    · rw [hs_cell _ _ _ _ _ (by decide), hs_self]
    · unfold CQ
      simp only [hset, hput, upd, reduceIte, Nat.reduceEqDiff, if_true, if_false, Nat.reduceAdd] at hC2 ⊢
      exact hC2
  · have eσ : tsh τ a (σ 6 a) = σ := by
      funext i k
      unfold tsh
      rw [rt i k]
      by_cases c : i = 6 ∧ k = a
      · rw [if_pos c, c.1, c.2]
      · rw [if_neg c, if_neg c]
    have e00 : τ 0 0 = σ 0 0 := by rw [rt 0 0, if_neg (by omega)]
    have hC2 := CR_shut (CQ_off hC (nI n)) (j := a) (o := σ 6 a)
    have hg : ∀ i, σ 6 i = if i = a then σ 6 a else τ 6 i := fun i => by
      by_cases c : i = a
      · rw [if_pos c, c]
      · rw [if_neg c, rt 6 i, if_neg (fun z => c z.2)]
    have hl := (wf_a w ha).2.2.2.2.2
    rw [eσ] at hC2
    rw [r1, r2, r3, if_neg (show ¬ nI 1 = 0 by decide), if_pos (show nI 1 = 1 from rfl), show h 17 5 = _ from hC.2.2.2.2.2.1, x_withBit (g := σ 6) (by omega) (fun i hi => (wf_a wτ hi).2.2.2.2.2) (show a < τ 0 0 by omega) (by omega) hg, bd_s]
    refine ⟨_, rfl, fun c c1 c2 => by rw [hs_cell _ _ _ _ _ (by omega), hs_cell _ _ _ _ _ c2], ?_, ?_, ?_⟩
    · rw [hs_cell _ _ _ _ _ (by decide), hs_place _ _ _ _ _ (by decide)]; exact e4
    · rw [hs_cell _ _ _ _ _ (by decide), hs_self]
    · unfold CQ
      simp only [hset, hput, upd, reduceIte, Nat.reduceEqDiff, if_true, if_false, Nat.reduceAdd] at hC2 ⊢
      exact hC2
  · have eτ : τ = tps σ b a m := by
      funext i k
      rw [rt i k, sd_eq]
      rfl
    rw [sd_eq] at g2
    rw [eτ] at hC
    have hC1 := CQ_off hC (nI n)
    have hC2 := CR_back hC1 w ha
    rw [r1, r2, r3, r4, if_neg (show ¬ nI 2 = 0 by decide), if_neg (show ¬ nI 2 = 1 by decide), if_pos (show nI 2 = 2 from rfl), x_comeBack hC1 w hst hb ha g1 g2, bd_s]
    refine ⟨_, rfl, fun c c1 c2 => by rw [hs_cell _ _ _ _ _ (by omega), hs_cell _ _ _ _ _ (by omega), hs_cell _ _ _ _ _ (by omega), hs_cell _ _ _ _ _ c2], ?_, ?_, ?_⟩
    · rw [hs_cell _ _ _ _ _ (by decide), hs_cell _ _ _ _ _ (by decide), hs_cell _ _ _ _ _ (by decide), hs_place _ _ _ _ _ (by decide)]; exact e4
    · rw [hs_cell _ _ _ _ _ (by decide), hs_cell _ _ _ _ _ (by decide), hs_cell _ _ _ _ _ (by decide), hs_self]
    · unfold CQ
      simp only [hset, hput, upd, reduceIte, Nat.reduceEqDiff, if_true, if_false, Nat.reduceAdd] at hC2 ⊢
      exact hC2
  · have eτ : τ = tsp σ b u := by
      funext i k
      rw [rt i k]
      rfl
    rw [eτ] at hC
    have hC1 := CQ_off hC (nI n)
    have hC2 := CR_join hC1 hb hu
    have e2 : (hset h 44 5 (nI n)) 17 2 = nI (σ 0 1 + 1) := by rw [hC1.2.2.1, tsp_1]
    have e7 : (hset h 44 5 (nI n)) 24 (4 * σ 0 1 + u) = nI (σ 9 (4 * b + u)) := by
      have := (hC1.2.2.2.2.2.2.2.2.2.1 (σ 0 1) (by rw [tsp_1]; omega)).2.2 u hu
      rw [tsp_9, if_pos rfl] at this
      exact this
    have ej : f_X2_joinLast 17 (nI b) (nI u) (hset h 44 5 (nI n)) = some ((), hset (hset (hset h 44 5 (nI n)) 17 2 (nI (σ 0 1))) 24 (4 * b + u) (nI (σ 9 (4 * b + u)))) := by
      unfold f_X2_joinLast f_X2_loadPlace
      rw [e2, nI_pred, lt_s2, bd_s, hs_self, x_loadOf _ (by omega) hu, bd_s, L4, pk_mul, nI_add, ck_nI _ (by omega) (by decide), cl_nI (by omega), lt_s2, hs_cell _ _ _ _ _ (by decide), show (hset h 44 5 (nI n)) (17 + 7) (4 * σ 0 1 + u) = _ from e7, Nat.mul_comm b 4]
    rw [r1, r2, r3, if_neg (show ¬ nI 3 = 0 by decide), if_neg (show ¬ nI 3 = 1 by decide), if_neg (show ¬ nI 3 = 2 by decide), if_pos (show nI 3 = 3 from rfl), ej, bd_s]
    refine ⟨_, rfl, fun c c1 c2 => by rw [hs_cell _ _ _ _ _ (by omega), hs_cell _ _ _ _ _ (by omega), hs_cell _ _ _ _ _ c2], ?_, ?_, ?_⟩
    · rw [hs_cell _ _ _ _ _ (by decide), hs_cell _ _ _ _ _ (by decide), hs_place _ _ _ _ _ (by decide)]; exact e4
    · rw [hs_cell _ _ _ _ _ (by decide), hs_cell _ _ _ _ _ (by decide), hs_self]
    · unfold CQ
      simp only [hset, hput, upd, reduceIte, Nat.reduceEqDiff, if_true, if_false, Nat.reduceAdd] at hC2 ⊢
      exact hC2
  · have eτ : τ = thr σ := by
      funext i k
      rw [rt i k]
      rfl
    rw [eτ] at hC
    have hC1 := CQ_off hC (nI n)
    have hC2 := CR_unhour hC1
    have e3 : h 17 3 = nI (σ 0 2 + 1) := by rw [hC.2.2.2.1, thr_2]
    rw [r1, if_neg (show ¬ nI 4 = 0 by decide), if_neg (show ¬ nI 4 = 1 by decide), if_neg (show ¬ nI 4 = 2 by decide), if_neg (show ¬ nI 4 = 3 by decide), e3, nI_pred]
    refine ⟨_, rfl, fun c c1 c2 => by rw [hs_cell _ _ _ _ _ (by omega), hs_cell _ _ _ _ _ c2], ?_, ?_, ?_⟩
    · rw [hs_cell _ _ _ _ _ (by decide), hs_place _ _ _ _ _ (by decide)]; exact e4
    · rw [hs_cell _ _ _ _ _ (by decide), hs_self]
    · unfold CQ
      simp only [hset, hput, upd, reduceIte, Nat.reduceEqDiff, if_true, if_false, Nat.reduceAdd] at hC2 ⊢
      exact hC2
theorem ok_undo : OK2 Rel (fun h => f_X7_undo 0 h) (fun h => f_X8_undo 0 h) := by
  intro hx hm hR
  show ∃ r hx2 hm2, f_X7_undo 0 hx = some (r, hx2) ∧ f_X8_undo 0 hm = some (r, hm2) ∧ Rel hx2 hm2
  have hR1 := rel_thrown hR
  unfold f_X7_undo f_X8_undo f_X0_kept
  rw [lt_s2 (hset hm 0 0 0)]
  generalize hset hm 0 0 0 = hm1 at hR1 ⊢
  obtain ⟨τ, wτ, hC, hM, e7, o, n, ho, hn, e4, e5, e9, hs1, hch⟩ := hR1.2.2.2.1
  have hC : CQ hx 17 τ := hC
  rw [bd_s, Nat.zero_add, Nat.zero_add, e5, e9]
  cases n with
  | zero =>
    rw [if_n0, if_n0]
    exact ⟨_, _, _, rfl, rfl, hR1⟩
  | succ n =>
    have ne : ¬ nI (n + 1) = 0 := fun z => by have := (nI_eq (a := n + 1) (b := 0) (by omega) (by decide)).mp z; omega
    obtain ⟨σ, w, hst, hMσ, ar, hch2⟩ := hch
    obtain ⟨h2, q1, q2, q3, q4, q5⟩ := x_back ho (by omega) e4 e5 hC w hst ar wτ
    rw [if_neg ne, if_neg ne, q1, bd_s, bd_s, q4, nI_pred, lt_s2, show (0 : Int32) = nI 0 from rfl, m_undo27 n (by omega) 100 fu 0 _ (by omega) (fu_ge _ (by omega)) (by rw [hs_self])]
    refine ⟨_, _, _, rfl, rfl, rel_act (τ := σ) hR1 (fun c c1 c2 => q2 c c1 (by omega)) (fun c c0 c4 c6 => by rw [hput_ne _ _ c4, hs_cell _ _ _ _ _ c0]) (fun k k0 k7 k9 => by rw [hput_ne _ _ (by decide), hs_place _ _ _ _ _ k9]) ⟨w, q5, ?_, ?_, o, n, ho, by omega, q3, q4, ?_, fun _ => hst, ?_⟩ hst⟩
    · rw [hput_self]
      refine MR_congr w (fun j hj => ?_) hMσ
      rw [if_pos (by omega), hs_cell _ _ _ _ _ (by decide)]
    · rw [hput_ne _ _ (by decide), hs_place _ _ _ _ _ (by decide), e7, hs1 (by omega), hst]
    · rw [hput_ne _ _ (by decide), hs_self]
    · rw [q2 45 (by decide) (by decide), q2 46 (by decide) (by decide), q2 47 (by decide) (by decide), q2 48 (by decide) (by decide), hput_ne _ _ (by decide), hs_cell _ _ _ _ _ (by decide)]
      exact hch2
