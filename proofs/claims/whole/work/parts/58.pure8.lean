theorem if_n0 {α : Type} (P Q : α) : (if nI 0 = 0 then P else Q) = P := if_pos rfl
theorem if_n1 {α : Type} (P Q : α) : (if nI 1 = 0 then P else Q) = Q := if_neg (show ¬ nI 1 = 0 from n10)
-- shut
def tsh (σ : Sg) (j o : Nat) : Sg := fun i k => if i = 6 ∧ k = j then o else σ i k
theorem tsh_ne {σ : Sg} {j o i : Nat} (h : i ≠ 6) : tsh σ j o i = σ i := funext fun _ => if_neg (fun z => h z.1)
theorem WF_shut {σ : Sg} (w : WFs σ) {j o : Nat} (ho : o ≤ 1) : WFs (tsh σ j o) := by
  obtain ⟨w1, w2, w3, w4, w5, w6, w7, w8, w9, w10⟩ := w
  unfold WFs
  rw [tsh_ne (i := 0) (by decide), tsh_ne (i := 1) (by decide), tsh_ne (i := 2) (by decide), tsh_ne (i := 3) (by decide), tsh_ne (i := 4) (by decide), tsh_ne (i := 5) (by decide), tsh_ne (i := 7) (by decide), tsh_ne (i := 8) (by decide), tsh_ne (i := 9) (by decide), tsh_ne (i := 10) (by decide), tsh_ne (i := 11) (by decide)]
  refine ⟨w1, w2, w3, w4, w5, w6, fun a ha => ?_, w8, w9, w10⟩
  obtain ⟨q1, q2, q3, q4, q5, q6⟩ := w7 a ha
  refine ⟨q1, q2, q3, q4, q5, ?_⟩
  unfold tsh; split <;> omega
theorem CR_shut {c0 c1 c2 c3 c4 c5 c6 c7 c8 : Nat → Int32} {σ : Sg} (hC : CR c0 c1 c2 c3 c4 c5 c6 c7 c8 σ) {j o : Nat} : CR (upd c0 5 (nI (bsum (tsh σ j o 6) (σ 0 0)))) c1 c2 c3 c4 c5 c6 c7 c8 (tsh σ j o) := by
  obtain ⟨w1, w2, w3, w4, w5, w6, w7, w8, w9, w10, w11⟩ := hC
  unfold CR
  rw [tsh_ne (i := 0) (by decide), tsh_ne (i := 1) (by decide), tsh_ne (i := 2) (by decide), tsh_ne (i := 3) (by decide), tsh_ne (i := 4) (by decide), tsh_ne (i := 5) (by decide), tsh_ne (i := 7) (by decide), tsh_ne (i := 8) (by decide), tsh_ne (i := 9) (by decide), tsh_ne (i := 10) (by decide), tsh_ne (i := 11) (by decide)]
  refine ⟨?_, ?_, ?_, ?_, ?_, ?_, ?_, w8, w9, w10, w11⟩
  · rw [pk_un (by decide)]; exact w1
  · rw [pk_un (by decide)]; exact w2
  · rw [pk_un (by decide)]; exact w3
  · rw [pk_un (by decide)]; exact w4
  · rw [pk_un (by decide)]; exact w5
  · rw [pk_us]
  · rw [pk_un (by decide)]; exact w7
theorem MR_shut {w : Nat → Int32} {σ : Sg} (hM : MR w σ) (h6 : σ 0 0 ≤ 6) {j o : Nat} (hj : j < σ 0 0) : MR (upd w (16 + 7 * j + 4) (nI o)) (tsh σ j o) := by
  obtain ⟨w1, w2, w3, w4, w5, w6, w7⟩ := hM
  unfold MR
  rw [tsh_ne (i := 0) (by decide), tsh_ne (i := 1) (by decide), tsh_ne (i := 2) (by decide), tsh_ne (i := 3) (by decide), tsh_ne (i := 4) (by decide), tsh_ne (i := 5) (by decide), tsh_ne (i := 7) (by decide), tsh_ne (i := 8) (by decide), tsh_ne (i := 9) (by decide), tsh_ne (i := 10) (by decide), tsh_ne (i := 11) (by decide)]
  refine ⟨?_, ?_, ?_, ?_, fun t ht => ?_, fun a ha => ?_, fun b hb => ?_⟩
  · rw [pk_un (by omega)]; exact w1
  · rw [pk_un (by omega)]; exact w2
  · rw [pk_un (by omega)]; exact w3
  · rw [pk_un (by omega)]; exact w4
  · rw [pk_un (by omega)]; exact w5 t ht
  · obtain ⟨q1, q2, q3, q4, q5, q6, q7⟩ := w6 a ha
    refine ⟨?_, ?_, ?_, ?_, ?_, ?_, ?_⟩
    · rw [pk_un (by omega)]; exact q1
    · rw [pk_un (by omega)]; exact q2
    · rw [pk_un (by omega)]; exact q3
    · rw [pk_un (by omega)]; exact q4
    · unfold upd tsh; (repeat' split) <;> first | rfl | omega | exact q5
    · rw [pk_un (by omega)]; exact q6
    · rw [pk_un (by omega)]; exact q7
  · obtain ⟨q1, q2, q3, q4⟩ := w7 b hb
    refine ⟨by rw [pk_un (by omega)]; exact q1, by rw [pk_un (by omega)]; exact q2, fun t ht => by rw [pk_un (by omega)]; exact q3 t ht, by rw [pk_un (by omega)]; exact q4⟩
theorem ok_shut (a0 a1 : Int32) : OK2 Rel (fun h => f_X7_shut 0 a0 a1 h) (fun h => f_X8_shut 0 a0 a1 h) := by
  intro hx hm hR
  show ∃ r hx2 hm2, f_X7_shut 0 a0 a1 hx = some (r, hx2) ∧ f_X8_shut 0 a0 a1 hm = some (r, hm2) ∧ Rel hx2 hm2
  have hR1 := rel_thrown hR
  unfold f_X7_shut f_X8_shut
  rw [lt_s2]
  generalize hset hm 0 0 0 = hm1 at hR1 ⊢
  obtain ⟨σ, w, hC, hM, e7, o, n, ho, hn, e4, e5, e9, hs1, hch⟩ := hR1.2.2.2.1
  have hC : CQ hx 17 σ := hC
  have h6 := w.1
  have i1 : ∀ {α : Type} (P Q : α), (if a1 < 0 then P else if a1 ≤ 1 then Q else P) = if rg a1 2 = 0 then P else Q := fun P Q => rg_if2 a1 1 (by decide) P Q
  simp only [Nat.zero_add, x_isArch hC, m_isArch hM w, bd_s, i1, m_in1]
  rcases rg_cases a0 (n := σ 0 0) (by omega) with h0 | ⟨j, hj, rfl⟩
  · simp only [h0, if_true]
    exact ⟨_, _, _, rfl, rfl, hR1⟩
  rcases rg_cases a1 (n := 2) (by omega) with h0 | ⟨v, hv, rfl⟩
  · simp only [h0, if_true, rg_in hj (show σ 0 0 < 2 ^ 31 by omega), if_neg n10]
    exact ⟨_, _, _, rfl, rfl, hR1⟩
  have hst := stands_of w (Or.inl (by omega))
  have em : hm1 4 (16 + 7 * j + 4) = nI (σ 6 j) := (hM.2.2.2.2.2.1 j hj).2.2.2.2.1
  have hf : ∀ i, i < σ 0 0 → σ 6 i ≤ 1 := fun i hi => (wf_a w hi).2.2.2.2.2
  have hg : ∀ i, tsh σ j v 6 i = if i = j then v else σ 6 i := fun i => by unfold tsh; by_cases c : i = j; rw [if_pos ⟨rfl, c⟩, if_pos c]; rw [if_neg (fun z => c z.2), if_neg c]
  simp only [rg_in hj (show σ 0 0 < 2 ^ 31 by omega), rg_in hv (by decide), if_neg n10, show hx 17 5 = _ from hC.2.2.2.2.2.1, x_bitOf h6 hf hj, x_withBit h6 hf hj hv hg, bd_s, lt_s2]
  obtain ⟨h2, q1, q2, q3, q4, q5, q6, q7, q8⟩ := x_keep (h := hset hx 17 5 (nI (bsum (tsh σ j v 6) (σ 0 0)))) ho hn (by rw [hs_cell _ _ _ _ _ (by decide)]; exact e4) (by rw [hs_cell _ _ _ _ _ (by decide)]; exact e5) 1 (nI j) (nI (σ 6 j)) 0
  obtain ⟨hk, p1, p2, p3, p4, p5⟩ := m_keep hn e9
  have eb : f_X8_becomes 0 ((16 + (7 * nI j)) + 4) (nI v) hm1 = some (nI (σ 6 j), hset hk 4 (16 + 7 * j + 4) (nI v)) := by
    unfold f_X8_becomes
    rw [p1, bd_s]
    simp (disch := omega) only [lt_s2, bd_s, bh_s, gz_0, gz_1, L0, L1, L2, L3, L4, L5, L6, L7, L8, L9, L10, L11, L12, L13, L14, L15, L16, L17, L18, L19, L20, L21, L22, L23, L24, L30, L31, L32, L36, L39, L40, L48, L57, L58, L59, L71, L72, L97, L99, L100, L122, L143, L144, L255, L320, L500, L720, L1000, L2300, L2400, nI_add, pk_mul, nI_leI, nI_ltI, nI_eqI, ck_nI, cl_nI, Nat.zero_add, Nat.add_zero, Nat.reduceAdd, Nat.reduceMul, if_pos, if_neg, if_true, if_false, p2 4 (by decide) (by decide), em]
  rw [q1, bd_s, eb, bd_s]
  refine ⟨_, _, _, rfl, rfl, act_done (τ := tsh σ j v) hR1 w hM e7 ho hn hch hst (fun c c1 => hs_cell _ _ _ _ _ (by omega)) q2 q3 q4 q5 q6 q7 q8 p2 p3 p4 p5 (fun c c4 => hs_cell _ _ _ _ _ c4) (WF_shut w (by omega)) ?_ ?_ ?_ ?_⟩
  · rw [tsh_ne (by omega)]; exact hst
  · exact Or.inr (Or.inl ⟨j, v, hj, rfl, rfl, rfl, by omega, fun i k => rfl⟩)
  · have := CR_shut hC (j := j) (o := v)
    simp only [hset, hput, upd, reduceIte, Nat.reduceEqDiff, if_true, if_false, Nat.reduceAdd] at this ⊢
    exact this
  · rw [hs_row, p2 4 (by decide) (by decide)]
    exact MR_shut hM h6 hj
-- hour
def thr (σ : Sg) : Sg := fun i k => if i = 0 ∧ k = 2 then σ 0 2 + 1 else σ i k
theorem thr_ne {σ : Sg} {i : Nat} (h : i ≠ 0) : thr σ i = σ i := funext fun _ => if_neg (fun z => h z.1)
theorem thr_k {σ : Sg} {k : Nat} (h : k ≠ 2) : thr σ 0 k = σ 0 k := if_neg (fun z => h z.2)
theorem thr_2 {σ : Sg} : thr σ 0 2 = σ 0 2 + 1 := if_pos ⟨rfl, rfl⟩
theorem WF_hour {σ : Sg} (w : WFs σ) (h : σ 0 2 < 11) (hst : σ 0 4 = 1) : WFs (thr σ) := by
  obtain ⟨w1, w2, w3, w4, w5, w6, w7, w8, w9, w10⟩ := w
  unfold WFs
  rw [thr_ne (i := 1) (by decide), thr_ne (i := 2) (by decide), thr_ne (i := 3) (by decide), thr_ne (i := 4) (by decide), thr_ne (i := 5) (by decide), thr_ne (i := 6) (by decide), thr_ne (i := 7) (by decide), thr_ne (i := 8) (by decide), thr_ne (i := 9) (by decide), thr_ne (i := 10) (by decide), thr_ne (i := 11) (by decide), thr_k (k := 0) (by decide), thr_k (k := 1) (by decide), thr_k (k := 3) (by decide), thr_k (k := 4) (by decide), thr_2]
  exact ⟨w1, w2, by omega, w4, fun z => by omega, w6, w7, w8, w9, fun d t a hd ht ha h2 => w10 d t a hd ht ha (by omega)⟩
theorem CR_hour {c0 c1 c2 c3 c4 c5 c6 c7 c8 : Nat → Int32} {σ : Sg} (hC : CR c0 c1 c2 c3 c4 c5 c6 c7 c8 σ) : CR (upd c0 3 (nI (σ 0 2 + 1))) c1 c2 c3 c4 c5 c6 c7 c8 (thr σ) := by
  obtain ⟨w1, w2, w3, w4, w5, w6, w7, w8, w9, w10, w11⟩ := hC
  unfold CR
  rw [thr_ne (i := 1) (by decide), thr_ne (i := 2) (by decide), thr_ne (i := 3) (by decide), thr_ne (i := 4) (by decide), thr_ne (i := 5) (by decide), thr_ne (i := 6) (by decide), thr_ne (i := 7) (by decide), thr_ne (i := 8) (by decide), thr_ne (i := 9) (by decide), thr_ne (i := 10) (by decide), thr_ne (i := 11) (by decide), thr_k (k := 0) (by decide), thr_k (k := 1) (by decide), thr_k (k := 3) (by decide), thr_k (k := 4) (by decide), thr_2]
  refine ⟨?_, ?_, ?_, ?_, ?_, ?_, ?_, w8, w9, w10, w11⟩
  · rw [pk_un (by decide)]; exact w1
  · rw [pk_un (by decide)]; exact w2
  · rw [pk_un (by decide)]; exact w3
  · rw [pk_us]
  · rw [pk_un (by decide)]; exact w5
  · rw [pk_un (by decide)]; exact w6
  · rw [pk_un (by decide)]; exact w7
/-- the model's flags of the arches, gone from a on -/
def clr (w : Nat → Int32) (a n : Nat) : Nat → Int32 := fun j => if a ≤ (j - 16) / 7 ∧ (j - 16) / 7 < n ∧ 16 ≤ j ∧ ((j - 16) % 7 = 5 ∨ (j - 16) % 7 = 6) then 0 else w j
theorem clr_e (w : Nat → Int32) (n : Nat) : clr w n n = w := funext fun j => by unfold clr; rw [if_neg (by omega)]
theorem clr_s (w : Nat → Int32) {a n : Nat} (h : a < n) : clr (upd (upd w (16 + 7 * a + 5) 0) (16 + 7 * a + 6) 0) (a + 1) n = clr w a n := by
  funext j
  unfold clr upd
  by_cases c1 : j = 16 + 7 * a + 6
  · rw [if_neg (by omega), if_pos c1, if_pos (by omega)]
  · by_cases c2 : j = 16 + 7 * a + 5
    · rw [if_neg (by omega), if_neg c1, if_pos c2, if_pos (by omega)]
    · rw [if_neg c1, if_neg c2]
      by_cases c3 : a + 1 ≤ (j - 16) / 7 ∧ (j - 16) / 7 < n ∧ 16 ≤ j ∧ ((j - 16) % 7 = 5 ∨ (j - 16) % 7 = 6)
      · rw [if_pos c3, if_pos (by omega)]
      · rw [if_neg c3, if_neg (by omega)]
theorem m_hourLoop (n : Nat) (hn : n ≤ 6) : ∀ (k fuel a : Nat) (h : AH), a + k = n → k < fuel → h 4 0 = nI n → f_X8_hour_45 0 fuel (nI a) h = some (h 4 2, hput h 4 (clr (h 4) a n)) := by
  intro k
  induction k with
  | zero =>
    intro fuel a h e hf e0
    obtain ⟨f, rfl⟩ : ∃ f, fuel = f + 1 := ⟨fuel - 1, by omega⟩
    have : a = n := by omega
    subst this
    rw [f_X8_hour_45]
    simp (disch := omega) only [lt_s2, bd_s, bh_s, gz_0, gz_1, L0, L1, L2, L3, L4, L5, L6, L7, L8, L9, L10, L11, L12, L13, L14, L15, L16, L17, L18, L19, L20, L21, L22, L23, L24, L30, L31, L32, L36, L39, L40, L48, L57, L58, L59, L71, L72, L97, L99, L100, L122, L143, L144, L255, L320, L500, L720, L1000, L2300, L2400, nI_add, pk_mul, nI_leI, nI_ltI, nI_eqI, ck_nI, cl_nI, Nat.zero_add, Nat.add_zero, Nat.reduceAdd, Nat.reduceMul, if_pos, if_neg, if_true, if_false, e0]
    rw [clr_e, hput_id]
  | succ k ih =>
    intro fuel a h e hf e0
    obtain ⟨f, rfl⟩ : ∃ f, fuel = f + 1 := ⟨fuel - 1, by omega⟩
    rw [f_X8_hour_45]
    simp (disch := omega) only [lt_s2, bd_s, bh_s, gz_0, gz_1, L0, L1, L2, L3, L4, L5, L6, L7, L8, L9, L10, L11, L12, L13, L14, L15, L16, L17, L18, L19, L20, L21, L22, L23, L24, L30, L31, L32, L36, L39, L40, L48, L57, L58, L59, L71, L72, L97, L99, L100, L122, L143, L144, L255, L320, L500, L720, L1000, L2300, L2400, nI_add, pk_mul, nI_leI, nI_ltI, nI_eqI, ck_nI, cl_nI, Nat.zero_add, Nat.add_zero, Nat.reduceAdd, Nat.reduceMul, if_pos, if_neg, if_true, if_false, e0, Nat.add_assoc]
    rw [← L0, ih f (a + 1) _ (by omega) (by omega) (by rw [hs_place _ _ _ _ _ (by omega), hs_place _ _ _ _ _ (by omega)]; exact e0), hput_hset, hput_hset, hs_place _ _ _ _ _ (by omega), hs_place _ _ _ _ _ (by omega), hs_row, hs_row]
    rw [← Nat.add_assoc, ← Nat.add_assoc, clr_s _ (by omega)]
theorem MR_hour {w : Nat → Int32} {σ : Sg} (hM : MR w σ) (wf : WFs σ) (h : σ 0 2 < 11) : MR (clr (upd w 2 (nI (σ 0 2 + 1))) 0 (σ 0 0)) (thr σ) := by
  have h6 := wf.1
  have h10 := wf.2.2.2.2.2.2.2.2.2
  obtain ⟨w1, w2, w3, w4, w5, w6, w7⟩ := hM
  have cn : ∀ j, (j < 16 ∨ 58 ≤ j ∨ (j - 16) % 7 < 5) → clr (upd w 2 (nI (σ 0 2 + 1))) 0 (σ 0 0) j = upd w 2 (nI (σ 0 2 + 1)) j := fun j hj => by unfold clr; rw [if_neg (by omega)]
  have cp : ∀ a, a < σ 0 0 → ∀ e, e < 2 → clr (upd w 2 (nI (σ 0 2 + 1))) 0 (σ 0 0) (16 + 7 * a + 5 + e) = 0 := fun a ha e he => by unfold clr; rw [if_pos (by omega)]
  unfold MR
  rw [thr_ne (i := 1) (by decide), thr_ne (i := 2) (by decide), thr_ne (i := 3) (by decide), thr_ne (i := 4) (by decide), thr_ne (i := 5) (by decide), thr_ne (i := 6) (by decide), thr_ne (i := 7) (by decide), thr_ne (i := 8) (by decide), thr_ne (i := 9) (by decide), thr_ne (i := 10) (by decide), thr_ne (i := 11) (by decide), thr_k (k := 0) (by decide), thr_k (k := 1) (by decide), thr_k (k := 3) (by decide), thr_2]
  refine ⟨?_, ?_, ?_, ?_, fun t ht => ?_, fun a ha => ?_, fun b hb => ?_⟩
  · rw [cn _ (by omega), pk_un (by omega)]; exact w1
  · rw [cn _ (by omega), pk_un (by omega)]; exact w2
  · rw [cn _ (by omega), pk_us]
  · rw [cn _ (by omega), pk_un (by omega)]; exact w4
  · rw [cn _ (by omega), pk_un (by omega)]; exact w5 t ht
  · obtain ⟨q1, q2, q3, q4, q5, q6, q7⟩ := w6 a ha
    refine ⟨?_, ?_, ?_, ?_, ?_, ?_, ?_⟩
    · rw [cn _ (by omega), pk_un (by omega)]; exact q1
    · rw [cn _ (by omega), pk_un (by omega)]; exact q2
    · rw [cn _ (by omega), pk_un (by omega)]; exact q3
    · rw [cn _ (by omega), pk_un (by omega)]; exact q4
    · rw [cn _ (by omega), pk_un (by omega)]; exact q5
    · have := h10 0 (σ 0 2 + 1) a (by decide) (by omega) (by omega) (by omega)
      rw [show 16 + 7 * a + 5 = 16 + 7 * a + 5 + 0 from rfl, cp a ha 0 (by decide), show 6 * (σ 0 2 + 1) + a = 72 * 0 + 6 * (σ 0 2 + 1) + a by omega, this]
      rfl
    · have := h10 1 (σ 0 2 + 1) a (by decide) (by omega) (by omega) (by omega)
      rw [show 16 + 7 * a + 6 = 16 + 7 * a + 5 + 1 from rfl, cp a ha 1 (by decide), show 72 + 6 * (σ 0 2 + 1) + a = 72 * 1 + 6 * (σ 0 2 + 1) + a by omega, this]
      rfl
  · obtain ⟨q1, q2, q3, q4⟩ := w7 b hb
    refine ⟨by rw [cn _ (by omega), pk_un (by omega)]; exact q1, by rw [cn _ (by omega), pk_un (by omega)]; exact q2, fun t ht => by rw [cn _ (by omega), pk_un (by omega)]; exact q3 t ht, by rw [cn _ (by omega), pk_un (by omega)]; exact q4⟩
theorem ok_hour : OK2 Rel (fun h => f_X7_hour 0 h) (fun h => f_X8_hour 0 h) := by
  intro hx hm hR
  show ∃ r hx2 hm2, f_X7_hour 0 hx = some (r, hx2) ∧ f_X8_hour 0 hm = some (r, hm2) ∧ Rel hx2 hm2
  have hR1 := rel_thrown hR
  unfold f_X7_hour f_X8_hour
  rw [lt_s2 (hset hm 0 0 0)]
  generalize hset hm 0 0 0 = hm1 at hR1 ⊢
  obtain ⟨σ, w, hC, hM, e7, o, n, ho, hn, e4, e5, e9, hs1, hch⟩ := hR1.2.2.2.1
  have hC : CQ hx 17 σ := hC
  have h6 := w.1
  have h11 := w.2.2.1
  have h41 := w.2.2.2.1
  rw [Nat.zero_add, Nat.zero_add, show hx 17 0 = _ from hC.1, e7, show hx 17 3 = _ from hC.2.2.2.1]
  by_cases c0 : σ 0 4 = 0
  · rw [c0, if_n0, if_n0]
    exact ⟨_, _, _, rfl, rfl, hR1⟩
  have hst : σ 0 4 = 1 := by omega
  rw [hst, if_n1, if_n1]
  by_cases c1 : σ 0 2 < 11
  · obtain ⟨hk, p1, p2, p3, p4, p5⟩ := m_keep hn e9
    simp (disch := omega) only [lt_s2, bd_s, bh_s, gz_0, gz_1, L0, L1, L2, L3, L4, L5, L6, L7, L8, L9, L10, L11, L12, L13, L14, L15, L16, L17, L18, L19, L20, L21, L22, L23, L24, L30, L31, L32, L36, L39, L40, L48, L57, L58, L59, L71, L72, L97, L99, L100, L122, L143, L144, L255, L320, L500, L720, L1000, L2300, L2400, nI_add, pk_mul, nI_leI, nI_ltI, nI_eqI, ck_nI, cl_nI, Nat.zero_add, Nat.add_zero, Nat.reduceAdd, Nat.reduceMul, if_pos, if_neg, if_true, if_false, hM.2.2.1]
    obtain ⟨h2, q1, q2, q3, q4, q5, q6, q7, q8⟩ := x_keep (h := hset hx 17 3 (nI (σ 0 2 + 1))) ho hn (by rw [hs_cell _ _ _ _ _ (by decide)]; exact e4) (by rw [hs_cell _ _ _ _ _ (by decide)]; exact e5) 4 0 0 0
    simp only [← L0, ← L4, q1, p1, bd_s]
    rw [L0, p2 4 (by decide) (by decide), hM.2.2.1, nI_add, m_hourLoop (σ 0 0) h6 (σ 0 0) fu 0 _ (by omega) (fu_ge _ (by omega)) (by rw [hs_place _ _ _ _ _ (by decide), p2 4 (by decide) (by decide)]; exact hM.1), hs_self, q2 17 (by decide) (by decide) (by decide) (by decide) (by decide), hs_self]
    refine ⟨_, _, _, rfl, rfl, act_done (τ := thr σ) hR1 w hM e7 ho hn hch hst (fun c c1 => hs_cell _ _ _ _ _ (by omega)) q2 q3 q4 q5 q6 q7 q8 p2 p3 p4 p5 (fun c c4 => by rw [hput_ne _ _ c4, hs_cell _ _ _ _ _ c4]) (WF_hour w c1 hst) ?_ ?_ ?_ ?_⟩
    · rw [thr_k (by decide)]; exact hst
    · exact Or.inr (Or.inr (Or.inr (Or.inr ⟨rfl, c1, fun i k => rfl⟩)))
    · have := CR_hour hC
      simp only [hset, hput, upd, reduceIte, Nat.reduceEqDiff, if_true, if_false, Nat.reduceAdd] at this ⊢
      exact this
    · rw [hput_self, hs_row, p2 4 (by decide) (by decide)]
      exact MR_hour hM w c1
  · have : σ 0 2 = 11 := by omega
    simp (disch := omega) only [lt_s2, bd_s, bh_s, gz_0, gz_1, L0, L1, L2, L3, L4, L5, L6, L7, L8, L9, L10, L11, L12, L13, L14, L15, L16, L17, L18, L19, L20, L21, L22, L23, L24, L30, L31, L32, L36, L39, L40, L48, L57, L58, L59, L71, L72, L97, L99, L100, L122, L143, L144, L255, L320, L500, L720, L1000, L2300, L2400, nI_add, pk_mul, nI_leI, nI_ltI, nI_eqI, ck_nI, cl_nI, Nat.zero_add, Nat.add_zero, Nat.reduceAdd, Nat.reduceMul, if_pos, if_neg, if_true, if_false, hM.2.2.1, this]
    exact ⟨_, _, _, rfl, rfl, hR1⟩
