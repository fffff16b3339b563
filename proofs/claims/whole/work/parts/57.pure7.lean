/-- all but the bridge that is now, and its acts, stays -/
theorem rel_act {hx hm hx2 hm2 : AH} {τ : Sg} (hR : Rel hx hm) (ex : ∀ c, ¬ (17 ≤ c ∧ c ≤ 25) → ¬ (44 ≤ c ∧ c ≤ 48) → hx2 c = hx c) (em : ∀ c, c ≠ 0 → c ≠ 4 → c ≠ 6 → hm2 c = hm c) (e0 : ∀ k, k ≠ 0 → k ≠ 7 → k ≠ 9 → hm2 0 k = hm 0 k) (hB : RB hx2 hm2 τ) (hst : τ 0 4 = 1) : Rel hx2 hm2 := by
  obtain ⟨⟨r1, r2⟩, r3, r4, -, r6, r7, r8⟩ := hR
  have x0 := ex 0 (by decide) (by decide)
  have x2 := ex 2 (by decide) (by decide)
  have x3 := ex 3 (by decide) (by decide)
  have x4 := ex 4 (by decide) (by decide)
  have x5 := ex 5 (by decide) (by decide)
  have x6 := ex 6 (by decide) (by decide)
  have x26 := ex 26 (by decide) (by decide)
  have x27 := ex 27 (by decide) (by decide)
  have x28 := ex 28 (by decide) (by decide)
  have x29 := ex 29 (by decide) (by decide)
  have x30 := ex 30 (by decide) (by decide)
  have x31 := ex 31 (by decide) (by decide)
  have x32 := ex 32 (by decide) (by decide)
  have x33 := ex 33 (by decide) (by decide)
  have x34 := ex 34 (by decide) (by decide)
  have x35 := ex 35 (by decide) (by decide)
  have x36 := ex 36 (by decide) (by decide)
  have x37 := ex 37 (by decide) (by decide)
  have x38 := ex 38 (by decide) (by decide)
  have x39 := ex 39 (by decide) (by decide)
  have x40 := ex 40 (by decide) (by decide)
  have x41 := ex 41 (by decide) (by decide)
  have x42 := ex 42 (by decide) (by decide)
  have x43 := ex 43 (by decide) (by decide)
  have x56 := ex 56 (by decide) (by decide)
  have x58 := ex 58 (by decide) (by decide)
  have x59 := ex 59 (by decide) (by decide)
  have y1 := em 1 (by decide) (by decide) (by decide)
  have y2 := em 2 (by decide) (by decide) (by decide)
  have y3 := em 3 (by decide) (by decide) (by decide)
  have y7 := em 7 (by decide) (by decide) (by decide)
  have y16 := em 16 (by decide) (by decide) (by decide)
  have y17 := em 17 (by decide) (by decide) (by decide)
  have y18 := em 18 (by decide) (by decide) (by decide)
  have g1 := e0 1 (by decide) (by decide) (by decide)
  have g11 := e0 11 (by decide) (by decide) (by decide)
  have g12 := e0 12 (by decide) (by decide) (by decide)
  have g33 := e0 33 (by decide) (by decide) (by decide)
  refine ⟨?_, ?_, ?_, ⟨τ, hB⟩, ?_, ?_, ?_⟩
  · rw [x0, g1, g12]; exact ⟨r1, r2⟩
  · rw [x2, x3, x4, y1, y2, y3]; exact r3
  · rw [x5, x6, g11, y7]; exact r4
  · rw [x26, x27, x28, x29, x30, x31, x32, x33, x34, y16, y17]; exact r6
  · rw [x35, x36, x37, x38, x39, x40, x41, x42, x43, y16, y17]; exact r7
  · rw [x58, x59, x56, g33, y18, y16, hB.2.2.2.1, hst]; exact ⟨r8.1, fun k _ => Or.inr rfl, r8.2.2⟩
-- lend, shut, hour
def tl (σ : Sg) (d j o : Nat) : Sg := fun i k => if i = 2 + d ∧ k = j then o else σ i k
theorem tl_ne {σ : Sg} {d j o i : Nat} (h : i ≠ 2 + d) : tl σ d j o i = σ i := funext fun _ => if_neg (fun z => h z.1)
theorem WF_lend {σ : Sg} (w : WFs σ) {d j o : Nat} (hd : d < 2) (ho : o ≤ 4) : WFs (tl σ d j o) := by
  obtain ⟨w1, w2, w3, w4, w5, w6, w7, w8, w9, w10⟩ := w
  unfold WFs
  rw [tl_ne (show 0 ≠ 2 + d by omega), tl_ne (show 1 ≠ 2 + d by omega), tl_ne (show 4 ≠ 2 + d by omega), tl_ne (show 5 ≠ 2 + d by omega), tl_ne (show 6 ≠ 2 + d by omega), tl_ne (show 7 ≠ 2 + d by omega), tl_ne (show 8 ≠ 2 + d by omega), tl_ne (show 9 ≠ 2 + d by omega), tl_ne (show 10 ≠ 2 + d by omega), tl_ne (show 11 ≠ 2 + d by omega)]
  refine ⟨w1, w2, w3, w4, w5, w6, fun a ha => ?_, w8, w9, w10⟩
  obtain ⟨q1, q2, q3⟩ := w7 a ha
  refine ⟨?_, ?_, q3⟩
  · unfold tl; split <;> omega
  · unfold tl; split <;> omega
theorem CR_lend {c0 c1 c2 c3 c4 c5 c6 c7 c8 : Nat → Int32} {σ : Sg} (hC : CR c0 c1 c2 c3 c4 c5 c6 c7 c8 σ) (h6 : σ 0 0 ≤ 6) {d j o : Nat} (hd : d < 2) (hj : j < σ 0 0) : CR c0 c1 (upd c2 (6 * d + j) (nI o)) c3 c4 c5 c6 c7 c8 (tl σ d j o) := by
  obtain ⟨w1, w2, w3, w4, w5, w6, w7, w8, w9, w10, w11⟩ := hC
  unfold CR
  rw [tl_ne (show 0 ≠ 2 + d by omega), tl_ne (show 1 ≠ 2 + d by omega), tl_ne (show 4 ≠ 2 + d by omega), tl_ne (show 5 ≠ 2 + d by omega), tl_ne (show 6 ≠ 2 + d by omega), tl_ne (show 7 ≠ 2 + d by omega), tl_ne (show 8 ≠ 2 + d by omega), tl_ne (show 9 ≠ 2 + d by omega), tl_ne (show 10 ≠ 2 + d by omega), tl_ne (show 11 ≠ 2 + d by omega)]
  refine ⟨w1, w2, w3, w4, w5, w6, w7, w8, fun a ha => ?_, w10, w11⟩
  obtain ⟨q1, q2, q3⟩ := w9 a ha
  refine ⟨?_, ?_, q3⟩
  · unfold upd tl
    by_cases c : a = 6 * d + j
    · rw [if_pos c, if_pos (by omega)]
    · rw [if_neg c, if_neg (by omega)]; exact q1
  · unfold upd tl
    by_cases c : 6 + a = 6 * d + j
    · rw [if_pos c, if_pos (by omega)]
    · rw [if_neg c, if_neg (by omega)]; exact q2
theorem MR_lend {w : Nat → Int32} {σ : Sg} (hM : MR w σ) (h6 : σ 0 0 ≤ 6) {d j o : Nat} (hd : d < 2) (hj : j < σ 0 0) : MR (upd w (16 + 7 * j + d) (nI o)) (tl σ d j o) := by
  obtain ⟨w1, w2, w3, w4, w5, w6, w7⟩ := hM
  unfold MR
  rw [tl_ne (show 0 ≠ 2 + d by omega), tl_ne (show 1 ≠ 2 + d by omega), tl_ne (show 4 ≠ 2 + d by omega), tl_ne (show 5 ≠ 2 + d by omega), tl_ne (show 6 ≠ 2 + d by omega), tl_ne (show 7 ≠ 2 + d by omega), tl_ne (show 8 ≠ 2 + d by omega), tl_ne (show 9 ≠ 2 + d by omega), tl_ne (show 10 ≠ 2 + d by omega), tl_ne (show 11 ≠ 2 + d by omega)]
  refine ⟨?_, ?_, ?_, ?_, fun t ht => ?_, fun a ha => ?_, fun b hb => ?_⟩
  · rw [pk_un (by omega)]; exact w1
  · rw [pk_un (by omega)]; exact w2
  · rw [pk_un (by omega)]; exact w3
  · rw [pk_un (by omega)]; exact w4
  · rw [pk_un (by omega)]; exact w5 t ht
  · obtain ⟨q1, q2, q3, q4, q5, q6, q7⟩ := w6 a ha
    refine ⟨?_, ?_, ?_, ?_, ?_, ?_, ?_⟩
    · unfold upd tl
      by_cases c : 16 + 7 * a = 16 + 7 * j + d
      · rw [if_pos c, if_pos (by omega)]
      · rw [if_neg c, if_neg (by omega)]; exact q1
    · unfold upd tl
      by_cases c : 16 + 7 * a + 1 = 16 + 7 * j + d
      · rw [if_pos c, if_pos (by omega)]
      · rw [if_neg c, if_neg (by omega)]; exact q2
    · rw [pk_un (by omega)]; exact q3
    · rw [pk_un (by omega)]; exact q4
    · rw [pk_un (by omega)]; exact q5
    · rw [pk_un (by omega)]; exact q6
    · rw [pk_un (by omega)]; exact q7
  · obtain ⟨q1, q2, q3, q4⟩ := w7 b hb
    refine ⟨by rw [pk_un (by omega)]; exact q1, by rw [pk_un (by omega)]; exact q2, fun t ht => by rw [pk_un (by omega)]; exact q3 t ht, by rw [pk_un (by omega)]; exact q4⟩
theorem stands_of {σ : Sg} (w : WFs σ) (h : 0 < σ 0 0 ∨ 0 < σ 0 1) : σ 0 4 = 1 := by
  have h1 := w.2.2.2.1
  have h2 := w.2.2.2.2.1
  by_cases c : σ 0 4 = 0
  · have := h2 c
    omega
  · omega
/-- an act on both sides, out of its parts -/
theorem act_done {hx hm hx1 hk hx2 hm2 : AH} {σ τ : Sg} {o n : Nat} {w f s t : Int32} (hR : Rel hx hm) (wσ : WFs σ) (hM : MR (hm 4) σ) (e7 : hm 0 7 = nI (σ 0 4)) (ho : o < 24) (hn : n ≤ 24) (hch : Ch o (hx 45) (hx 46) (hx 47) (hx 48) (hm 6) n σ) (hst : σ 0 4 = 1)
    (ex1 : ∀ c, ¬ (17 ≤ c ∧ c ≤ 25) → hx1 c = hx c)
    (kx : ∀ c, c ≠ 44 → c ≠ 45 → c ≠ 46 → c ≠ 47 → c ≠ 48 → hx2 c = hx1 c) (k4 : hx2 44 4 = nI (oN o n)) (k5 : hx2 44 5 = nI (nN n + 1)) (a1 : hx2 45 = upd (hx1 45) ((oN o n + nN n) % 24) w) (a2 : hx2 46 = upd (hx1 46) ((oN o n + nN n) % 24) f) (a3 : hx2 47 = upd (hx1 47) ((oN o n + nN n) % 24) s) (a4 : hx2 48 = upd (hx1 48) ((oN o n + nN n) % 24) t)
    (m1 : ∀ c, c ≠ 0 → c ≠ 6 → hk c = hm c) (m0 : ∀ k, k ≠ 9 → hk 0 k = hm 0 k) (m9 : hk 0 9 = nI (nN n + 1)) (m6 : hk 6 = wN (hm 6) (hm 4) n) (em2 : ∀ c, c ≠ 4 → hm2 c = hk c)
    (wτ : WFs τ) (tst : τ 0 4 = 1) (ar : AR w f s t σ τ) (cτ : CR (hx1 17) (hx1 18) (hx1 19) (hx1 20) (hx1 21) (hx1 22) (hx1 23) (hx1 24) (hx1 25) τ) (mτ : MR (hm2 4) τ) : Rel hx2 hm2 := by
  have kk : ∀ c, c ≤ 43 → hx2 c = hx1 c := fun c hc => kx c (by omega) (by omega) (by omega) (by omega) (by omega)
  refine rel_act (τ := τ) hR (fun c c1 c2 => ?_) (fun c c0 c4 c6 => ?_) (fun k k0 k7 k9 => ?_) ⟨wτ, ?_, mτ, ?_, ?_⟩ tst
  · rw [kx c (by omega) (by omega) (by omega) (by omega) (by omega), ex1 c c1]
  · rw [em2 c c4, m1 c c0 c6]
  · rw [em2 0 (by decide), m0 k k9]
  · rw [kk 17 (by decide), kk 18 (by decide), kk 19 (by decide), kk 20 (by decide), kk 21 (by decide), kk 22 (by decide), kk 23 (by decide), kk 24 (by decide), kk 25 (by decide)]
    exact cτ
  · rw [em2 0 (by decide), m0 7 (by decide), e7, hst, tst]
  · rw [em2 0 (by decide), em2 6 (by decide), m9, m6]
    rw [ex1 45 (by decide)] at a1
    rw [ex1 46 (by decide)] at a2
    rw [ex1 47 (by decide)] at a3
    rw [ex1 48 (by decide)] at a4
    exact RA_push (c0 := hx 44) ho hn hch wσ hst tst hM ar k4 k5 a1 a2 a3 a4
theorem x_give {q : Nat} (h : AH) {d a : Nat} (hd : d < 2) (ha : a < 6) (v : Int32) : f_X2_giveCharter q (nI d) (nI a) v h = some ((), hset h (q + 2) (6 * d + a) v) := by
  unfold f_X2_giveCharter f_X2_charterPlace
  simp (disch := omega) only [lt_s2, bd_s, bh_s, gz_0, gz_1, L0, L1, L2, L3, L4, L5, L6, L7, L8, L9, L10, L11, L12, L13, L14, L15, L16, L17, L18, L19, L20, L21, L22, L23, L24, L30, L31, L32, L36, L39, L40, L48, L57, L58, L59, L71, L72, L97, L99, L100, L122, L143, L144, L255, L320, L500, L720, L1000, L2300, L2400, nI_add, pk_mul, nI_leI, nI_ltI, nI_eqI, ck_nI, cl_nI, Nat.zero_add, Nat.add_zero, Nat.reduceAdd, Nat.reduceMul, if_pos, if_neg, if_true, if_false]
  rw [Nat.mul_comm d 6]
theorem ok_lend (a0 a1 a2 : Int32) : OK2 Rel (fun h => f_X7_lend 0 a0 a1 a2 h) (fun h => f_X8_lend 0 a0 a1 a2 h) := by
  intro hx hm hR
  show ∃ r hx2 hm2, f_X7_lend 0 a0 a1 a2 hx = some (r, hx2) ∧ f_X8_lend 0 a0 a1 a2 hm = some (r, hm2) ∧ Rel hx2 hm2
  have hR1 := rel_thrown hR
  unfold f_X7_lend f_X8_lend
  rw [lt_s2]
  generalize hset hm 0 0 0 = hm1 at hR1 ⊢
  obtain ⟨σ, w, hC, hM, e7, o, n, ho, hn, e4, e5, e9, hs1, hch⟩ := hR1.2.2.2.1
  have hC : CQ hx 17 σ := hC
  have h6 := w.1
  have i1 : ∀ {α : Type} (P Q : α), (if a1 < 0 then P else if (1 : Int32) < a1 then P else Q) = if rg a1 2 = 0 then P else Q := fun P Q => rg_if1 a1 1 (by decide) P Q
  have i2 : ∀ {α : Type} (P Q : α), (if a2 < 0 then P else if a2 ≤ 4 then Q else P) = if rg a2 5 = 0 then P else Q := fun P Q => rg_if2 a2 4 (by decide) P Q
  simp only [Nat.zero_add, x_isArch hC, m_isArch hM w, bd_s, i2, i1, m_in1, m_in4]
  rcases rg_cases a0 (n := σ 0 0) (by omega) with h0 | ⟨j, hj, rfl⟩
  · simp only [h0, if_true]
    exact ⟨_, _, _, rfl, rfl, hR1⟩
  rcases rg_cases a1 (n := 2) (by omega) with h0 | ⟨d, hd, rfl⟩
  · simp only [h0, if_true, rg_in hj (show σ 0 0 < 2 ^ 31 by omega), if_neg n10]
    exact ⟨_, _, _, rfl, rfl, hR1⟩
  rcases rg_cases a2 (n := 5) (by omega) with h0 | ⟨v, hv, rfl⟩
  · simp only [h0, if_true, rg_in hj (show σ 0 0 < 2 ^ 31 by omega), rg_in hd (by decide), if_neg n10]
    exact ⟨_, _, _, rfl, rfl, hR1⟩
  have hst := stands_of w (Or.inl (by omega))
  have ec : hx 19 (6 * d + j) = nI (σ (2 + d) j) := by
    have := hC.2.2.2.2.2.2.2.2.1 j hj
    rcases (show d = 0 ∨ d = 1 by omega) with rfl | rfl
    · rw [Nat.mul_zero, Nat.zero_add]; exact this.1
    · exact this.2.1
  have em : hm1 4 (16 + 7 * j + d) = nI (σ (2 + d) j) := by
    have := hM.2.2.2.2.2.1 j hj
    rcases (show d = 0 ∨ d = 1 by omega) with rfl | rfl
    · exact this.1
    · exact this.2.1
  simp only [rg_in hj (show σ 0 0 < 2 ^ 31 by omega), rg_in hd (by decide), rg_in hv (by decide), if_neg n10, x_charterOf hx hd (show j < 6 by omega), bd_s, x_give hx hd (show j < 6 by omega), Nat.reduceAdd, ec]
  obtain ⟨h2, q1, q2, q3, q4, q5, q6, q7, q8⟩ := x_keep (h := hset hx 19 (6 * d + j) (nI v)) ho hn (by rw [hs_cell _ _ _ _ _ (by decide)]; exact e4) (by rw [hs_cell _ _ _ _ _ (by decide)]; exact e5) 0 (nI j) (nI d) (nI (σ (2 + d) j))
  obtain ⟨hk, p1, p2, p3, p4, p5⟩ := m_keep hn e9
  have eb : f_X8_becomes 0 ((16 + (7 * nI j)) + nI d) (nI v) hm1 = some (nI (σ (2 + d) j), hset hk 4 (16 + 7 * j + d) (nI v)) := by
    unfold f_X8_becomes
    rw [p1, bd_s]
    simp (disch := omega) only [lt_s2, bd_s, bh_s, gz_0, gz_1, L0, L1, L2, L3, L4, L5, L6, L7, L8, L9, L10, L11, L12, L13, L14, L15, L16, L17, L18, L19, L20, L21, L22, L23, L24, L30, L31, L32, L36, L39, L40, L48, L57, L58, L59, L71, L72, L97, L99, L100, L122, L143, L144, L255, L320, L500, L720, L1000, L2300, L2400, nI_add, pk_mul, nI_leI, nI_ltI, nI_eqI, ck_nI, cl_nI, Nat.zero_add, Nat.add_zero, Nat.reduceAdd, Nat.reduceMul, if_pos, if_neg, if_true, if_false, p2 4 (by decide) (by decide), em]
  rw [q1, bd_s, eb, bd_s]
  refine ⟨_, _, _, rfl, rfl, act_done (τ := tl σ d j v) hR1 w hM e7 ho hn hch hst (fun c c1 => hs_cell _ _ _ _ _ (by omega)) q2 q3 q4 q5 q6 q7 q8 p2 p3 p4 p5 (fun c c4 => hs_cell _ _ _ _ _ c4) (WF_lend w hd (by omega)) ?_ ?_ ?_ ?_⟩
  · rw [tl_ne (by omega)]; exact hst
  · exact Or.inl ⟨j, d, v, hj, hd, rfl, rfl, rfl, rfl, by omega, fun i k => rfl⟩
  · have := CR_lend hC h6 hd hj (o := v)
    simp only [hset, hput, upd, reduceIte, Nat.reduceEqDiff, if_true, if_false, Nat.reduceAdd] at this ⊢
    exact this
  · rw [hs_row, p2 4 (by decide) (by decide)]
    exact MR_lend hM h6 hd hj

