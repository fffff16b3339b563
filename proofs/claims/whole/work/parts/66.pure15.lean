-- cut
def cutf (o : Nat) : Nat := if o / 16 % 2 = 1 then 0 else 15 - o % 16
def orb (o c : Nat) : Nat := if o / 2 ^ c % 2 = 1 then o else o + 2 ^ c
theorem cut_x : ∀ o, o < 32 → ∀ c, c < 5 → (nI o ||| ((1 : Int32) <<< (nI c &&& 31))) = nI (orb o c) := by decide +kernel
theorem orb_lt : ∀ o, o < 32 → ∀ c, c < 5 → orb o c < 32 := by decide +kernel
theorem cut_m : ∀ o, o < 32 → ∀ c, c < 4 → (nI (cutf o) &&& ((1 <<< (nI c &&& 31)) ^^^ (-1))) = nI (cutf (orb o c)) := by decide +kernel
theorem cut_m4 : ∀ o, o < 32 → (nI (cutf o) &&& 0) = nI (cutf (orb o 4)) := by decide +kernel
theorem cut_e : ∀ o, o < 32 → (if ((nI o >>> (4 &&& 31)) &&& 1) = 1 then (0 : Int32) else (15 &&& (nI o ^^^ (-1)))) = nI (cutf o) := by decide +kernel
theorem cut_loop {hx hm : AH} {σ : Sg} (hC : CQ hx 17 σ) (hM : MR (hm 4) σ) (w : WFs σ) {ti ma : Nat} (hti : ti ≤ 30) (hma : ma ≤ 20) : ∀ (k fuel fuel2 a o : Nat), a + k = σ 0 0 → k < fuel → k < fuel2 → o < 32 → ∃ v, f_X2_tradesCutOff_5 17 fuel (nI ti) (nI ma) (nI o) (nI a) hx = some (v, hx) ∧ f_X8_cut_48 0 fuel2 (nI ti) (nI ma) (nI (cutf o)) (nI a) hm = some (v, hm) := by
  have h6 := w.1
  intro k
  induction k with
  | zero =>
    intro fuel fuel2 a o e hf hf2 ho
    obtain ⟨f, rfl⟩ : ∃ f, fuel = f + 1 := ⟨fuel - 1, by omega⟩
    obtain ⟨g, rfl⟩ : ∃ f, fuel2 = f + 1 := ⟨fuel2 - 1, by omega⟩
    have : a = σ 0 0 := by omega
    subst this
    have ec := cut_e o ho
    have C0 : hm (0 + 4) (0 : Int32).toNatClampNeg = nI (σ 0 0) := hM.1
    rw [f_X2_tradesCutOff_5, f_X8_cut_48, hC.2.1, if_pos (nI_le (Nat.le_refl _) (by omega)), C0, show ck 0 100 = fun K : Option (Int32 × AH) => K from rfl]
    unfold f_X7_bitOf
    rw [bd_s]
    refine ⟨nI (cutf o), ?_, if_pos (nI_le (Nat.le_refl _) (by omega))⟩
    rw [← ec]
    by_cases c : (nI o >>> (4 &&& 31) &&& 1) = 1
    · rw [if_pos c, if_pos c]
    · rw [if_neg c, if_neg c]
  | succ k ih =>
    intro fuel fuel2 a o e hf hf2 ho
    obtain ⟨f, rfl⟩ : ∃ f, fuel = f + 1 := ⟨fuel - 1, by omega⟩
    obtain ⟨g, rfl⟩ : ∃ f, fuel2 = f + 1 := ⟨fuel2 - 1, by omega⟩
    have ha : a < σ 0 0 := by omega
    have hwa := wf_a w ha
    have c2 := hC.2.2.2.2.2.2.2.2.1 a ha
    have m2 := hM.2.2.2.2.2.1 a ha
    have l4 := hwa.2.2.2.1
    have l2 := hwa.1
    have M4 : f_X8_archOf 0 (nI a) 4 hm = some (nI (σ 6 a), hm) := by rw [L4, m_archOf _ (by omega) (by decide), m2.2.2.2.2.1]
    have M2 : f_X8_archOf 0 (nI a) 2 hm = some (nI (σ 4 a), hm) := by rw [L2, m_archOf _ (by omega) (by decide), m2.2.2.1]
    have M0 : f_X8_archOf 0 (nI a) 0 hm = some (nI (σ 2 a), hm) := by rw [L0, m_archOf _ (by omega) (by decide), Nat.add_zero, m2.1]
    have X0 : f_X2_charterOf 17 0 (nI a) hx = some (nI (σ 2 a), hx) := by rw [L0, x_charterOf _ (by decide) (by omega), Nat.mul_zero, Nat.zero_add, show hx (17 + 2) a = _ from c2.1]
    have C0 : hm (0 + 4) (0 : Int32).toNatClampNeg = nI (σ 0 0) := hM.1
    rw [f_X2_tradesCutOff_5, f_X8_cut_48, hC.2.1, if_neg (nI_ge ha (by omega)), C0, if_neg (nI_ge ha (by omega)), show ck 0 100 = fun K : Option (Int32 × AH) => K from rfl]
    simp only [x_isShut hC w ha, bd_s, M4, M2, M0, X0, ck_nI _ (show a < 6 by omega) (show 6 < 2 ^ 31 by decide), cl_nI (show a < 2 ^ 31 by omega), show hx (17 + 3) a = nI (σ 4 a) from c2.2.2.1, sub_lt (show σ 4 a < 2 ^ 30 by omega) (show ti < 2 ^ 30 by omega) (show ma < 2 ^ 30 by omega), lt_s2, nI_1]
    rcases (show σ 6 a = 0 ∨ σ 6 a = 1 by have := hwa.2.2.2.2.2; omega) with e6 | e6
    · rw [e6, if_n0, if_n0]
      by_cases c : σ 4 a < ti + ma
      · rw [if_pos c, if_pos c]
        exact ih f g (a + 1) o (by omega) (by omega) (by omega) ho
      · rw [if_neg c, if_neg c, cut_x o ho _ (by omega)]
        have ol := orb_lt o ho (σ 2 a) (by omega)
        by_cases c4 : σ 2 a = 4
        · rw [c4, if_pos (show nI 4 = 4 from rfl), cut_m4 o ho]
          rw [c4] at ol
          exact ih f g (a + 1) _ (by omega) (by omega) (by omega) ol
        · rw [if_neg (show ¬ nI (σ 2 a) = 4 from fun z => c4 ((nI_eq (by omega) (by decide)).mp z)), cut_m o ho _ (by omega)]
          exact ih f g (a + 1) _ (by omega) (by omega) (by omega) ol
    · rw [e6, if_n1, if_n1]
      exact ih f g (a + 1) o (by omega) (by omega) (by omega) ho
theorem ok_cut (a0 a1 : Int32) : OK2 Rel (fun h => f_X7_cut 0 a0 a1 h) (fun h => f_X8_cut 0 a0 a1 h) := by
  intro hx hm hR
  show ∃ r hx2 hm2, f_X7_cut 0 a0 a1 hx = some (r, hx2) ∧ f_X8_cut 0 a0 a1 hm = some (r, hm2) ∧ Rel hx2 hm2
  have hR1 := rel_thrown hR
  unfold f_X7_cut f_X8_cut
  rw [lt_s2 (hset hm 0 0 0)]
  generalize hset hm 0 0 0 = hm1 at hR1 ⊢
  obtain ⟨σ, w, hC, hM, e7, -⟩ := hR1.2.2.2.1
  have hC : CQ hx 17 σ := hC
  have h41 := w.2.2.2.1
  have i1 : ∀ {α : Type} (P Q : α), (if a0 < 0 then P else if (30 : Int32) < a0 then P else Q) = if rg a0 31 = 0 then P else Q := fun P Q => rg_if1 a0 30 (by decide) P Q
  have i2 : ∀ {α : Type} (P Q : α), (if a1 < 0 then P else if a1 ≤ 20 then Q else P) = if rg a1 21 = 0 then P else Q := fun P Q => rg_if2 a1 20 (by decide) P Q
  rw [Nat.zero_add, show hx 17 0 = _ from hC.1, e7, i1, i2]
  simp only [m_in30, m_in20, bd_s]
  by_cases c0 : σ 0 4 = 0
  · rw [c0, if_n0, if_n0]
    exact ⟨_, _, _, rfl, rfl, hR1⟩
  have hst : σ 0 4 = 1 := by omega
  rw [hst, if_n1, if_n1]
  rcases rg_cases a0 (n := 31) (by decide) with h0 | ⟨ti, hti, rfl⟩
  · rw [h0, if_pos rfl, if_pos rfl]
    exact ⟨_, _, _, rfl, rfl, hR1⟩
  rw [rg_in hti (by decide), if_neg n10, if_neg n10]
  rcases rg_cases a1 (n := 21) (by decide) with h0 | ⟨ma, hma, rfl⟩
  · rw [h0, if_pos rfl, if_pos rfl]
    exact ⟨_, _, _, rfl, rfl, hR1⟩
  rw [rg_in hma (by decide), if_neg n10, if_neg n10]
  have h6 := w.1
  obtain ⟨v, r1, r2⟩ := cut_loop hC hM w (ti := ti) (ma := ma) (by omega) (by omega) (σ 0 0) fu fu 0 0 (by omega) (fu_ge _ (by omega)) (fu_ge _ (by omega)) (by decide)
  unfold f_X2_tradesCutOff
  rw [show (0 : Int32) = nI 0 from rfl, r1, bd_s, show (15 : Int32) = nI (cutf 0) from rfl, r2]
  exact ⟨_, _, _, rfl, rfl, hR1⟩
-- as
def ik (s k : Nat) : Nat := if k = 0 ∨ s = k ∨ (k = 1 ∧ s < 4) ∨ (k = 4 ∧ s = 5) then 1 else 0
theorem ik_01 (s k : Nat) : ik s k = 0 ∨ ik s k = 1 := by unfold ik; split; exact Or.inr rfl; exact Or.inl rfl
theorem ik_st (f : Nat) (x1 : Int32) (s t : Nat) (hs : s < 6) (ht : t < 6) (h : AH) : f_X7_isKind_4 (f + 1) x1 (nI s) (nI t) h = if nI s = x1 then some (1, h) else f_X7_isKind_4 f x1 ((stv 1).getD s 0) (nI (t + 1)) h := by
  rw [f_X7_isKind_4, if_neg (show ¬ (6 : Int32) ≤ nI t from nI_ge (b := 6) ht (by decide)), if_neg (nI_pos (by omega)), ck_nI _ hs (by decide), cl_nI (by omega), lt_s2, lt_s2, nI_1]
theorem ik_m1 (f : Nat) (x1 : Int32) (t : Nat) (ht : t < 6) (h : AH) : f_X7_isKind_4 (f + 1) x1 (-1) (nI t) h = some (0, h) := by
  rw [f_X7_isKind_4, if_neg (show ¬ (6 : Int32) ≤ nI t from nI_ge (b := 6) ht (by decide)), if_pos (by decide)]
theorem x_isKind {s k : Nat} (h1 : 1 ≤ s) (h5 : s ≤ 5) (hk : k < 6) (h : AH) : f_X7_isKind (nI s) (nI k) h = some (nI (ik s k), h) := by
  obtain ⟨f, hf⟩ := fu_s 5 (by decide)
  have g0 : (stv 1).getD 0 0 = -1 := rfl
  have g1 : (stv 1).getD 1 0 = nI 0 := rfl
  have g2 : (stv 1).getD 2 0 = nI 1 := rfl
  have g3 : (stv 1).getD 3 0 = nI 1 := rfl
  have g4 : (stv 1).getD 4 0 = nI 0 := rfl
  have g5 : (stv 1).getD 5 0 = nI 4 := rfl
  have z0 : ∀ f t, t < 5 → f_X7_isKind_4 (f + 2) (nI k) (nI 0) (nI t) h = some (nI (if k = 0 then 1 else 0), h) := by
    intro f t ht
    rw [ik_st _ _ _ _ (by decide) (by omega), g0, ik_m1 _ _ _ (by omega)]
    by_cases c : k = 0
    · rw [c]; rfl
    · rw [if_neg (fun z => c ((nI_eq (by omega) (by decide)).mp z.symm)), if_neg c]; rfl
  have z1 : ∀ f t, t < 4 → f_X7_isKind_4 (f + 3) (nI k) (nI 1) (nI t) h = some (nI (if k = 0 ∨ k = 1 then 1 else 0), h) := by
    intro f t ht
    rw [ik_st _ _ _ _ (by decide) (by omega), g1, z0 f (t + 1) (by omega)]
    by_cases c : k = 1
    · rw [c]; rfl
    · rw [if_neg (fun z => c ((nI_eq (by omega) (by decide)).mp z.symm))]
      by_cases c0 : k = 0
      · rw [if_pos c0, if_pos (Or.inl c0)]
      · rw [if_neg c0, if_neg (by omega)]
  have z4 : ∀ f t, t < 4 → f_X7_isKind_4 (f + 3) (nI k) (nI 4) (nI t) h = some (nI (if k = 0 ∨ k = 4 then 1 else 0), h) := by
    intro f t ht
    rw [ik_st _ _ _ _ (by decide) (by omega), g4, z0 f (t + 1) (by omega)]
    by_cases c : k = 4
    · rw [c]; rfl
    · rw [if_neg (fun z => c ((nI_eq (by omega) (by decide)).mp z.symm))]
      by_cases c0 : k = 0
      · rw [if_pos c0, if_pos (Or.inl c0)]
      · rw [if_neg c0, if_neg (by omega)]
  unfold f_X7_isKind
  rw [hf, show (0 : Int32) = nI 0 from rfl]
  unfold ik
  rcases (show s = 1 ∨ s = 2 ∨ s = 3 ∨ s = 4 ∨ s = 5 by omega) with rfl | rfl | rfl | rfl | rfl
  · rw [z1 (f + 2) 0 (by decide)]
    congr 3
    by_cases c : k = 0 ∨ k = 1
    · rw [if_pos c, if_pos (by omega)]
    · rw [if_neg c, if_neg (by omega)]
  · rw [ik_st _ _ _ _ (by decide) (by decide), g2, z1 (f + 1) 1 (by decide)]
    by_cases c2 : k = 2
    · rw [c2]; rfl
    · rw [if_neg (fun z => c2 ((nI_eq (by omega) (by decide)).mp z.symm))]
      congr 3
      by_cases c : k = 0 ∨ k = 1
      · rw [if_pos c, if_pos (by omega)]
      · rw [if_neg c, if_neg (by omega)]
  · rw [ik_st _ _ _ _ (by decide) (by decide), g3, z1 (f + 1) 1 (by decide)]
    by_cases c2 : k = 3
    · rw [c2]; rfl
    · rw [if_neg (fun z => c2 ((nI_eq (by omega) (by decide)).mp z.symm))]
      congr 3
      by_cases c : k = 0 ∨ k = 1
      · rw [if_pos c, if_pos (by omega)]
      · rw [if_neg c, if_neg (by omega)]
  · rw [z4 (f + 2) 0 (by decide)]
    congr 3
    by_cases c : k = 0 ∨ k = 4
    · rw [if_pos c, if_pos (by omega)]
    · rw [if_neg c, if_neg (by omega)]
  · rw [ik_st _ _ _ _ (by decide) (by decide), g5, z4 (f + 1) 1 (by decide)]
    by_cases c2 : k = 5
    · rw [c2]; rfl
    · rw [if_neg (fun z => c2 ((nI_eq (by omega) (by decide)).mp z.symm))]
      congr 3
      by_cases c : k = 0 ∨ k = 4
      · rw [if_pos c, if_pos (by omega)]
      · rw [if_neg c, if_neg (by omega)]
theorem m_isOf {s k : Nat} (h1 : 1 ≤ s) (h5 : s ≤ 5) (hk : k < 6) (h : AH) : f_X8_isOf (nI s) (nI k) h = some (nI (ik s k), h) := by
  rcases (show s = 1 ∨ s = 2 ∨ s = 3 ∨ s = 4 ∨ s = 5 by omega) with rfl | rfl | rfl | rfl | rfl <;> rcases (show k = 0 ∨ k = 1 ∨ k = 2 ∨ k = 3 ∨ k = 4 ∨ k = 5 by omega) with rfl | rfl | rfl | rfl | rfl | rfl <;> rfl
theorem ok_as (a0 a1 : Int32) : OK2 Rel (fun h => f_X7_as 0 a0 a1 h) (fun h => f_X8_as 0 a0 a1 h) := by
  intro hx hm hR
  show ∃ r hx2 hm2, f_X7_as 0 a0 a1 hx = some (r, hx2) ∧ f_X8_as 0 a0 a1 hm = some (r, hm2) ∧ Rel hx2 hm2
  have hR1 := rel_thrown hR
  unfold f_X7_as f_X8_as
  rw [lt_s2 (hset hm 0 0 0)]
  generalize hset hm 0 0 0 = hm1 at hR1 ⊢
  obtain ⟨σ, w, hC, hM, e7, -⟩ := hR1.2.2.2.1
  have hC : CQ hx 17 σ := hC
  have h6 := w.2.1
  have i2 : ∀ {α : Type} (P Q : α), (if a1 < 0 then P else if a1 < 6 then Q else P) = if rg a1 6 = 0 then P else Q := fun P Q => rg_if3 a1 6 P Q
  simp only [Nat.zero_add, x_isBoat hC, m_isBoat hM w, bd_s, i2, m_in5]
  rcases rg_cases a0 (n := σ 0 1) (by omega) with h0 | ⟨b, hb, rfl⟩
  · simp only [h0, if_true]
    exact ⟨_, _, _, rfl, rfl, hR1⟩
  rw [rg_in hb (by omega), if_neg n10, if_neg n10]
  rcases rg_cases a1 (n := 6) (by decide) with h0 | ⟨k, hk, rfl⟩
  · simp only [h0, if_true]
    exact ⟨_, _, _, rfl, rfl, hR1⟩
  have hw := wf_b w hb
  rw [rg_in hk (by decide), if_neg n10, if_neg n10, ck_nI _ (by omega) (by decide), cl_nI (by omega), show hx (17 + 5) b = nI (σ 7 b) from (hC.2.2.2.2.2.2.2.2.2.1 b hb).1, x_isKind hw.1 hw.2.1 hk, bd_s, lt_s2, show f_X8_of 0 (nI b) 0 (hset hm1 0 1 0) = some ((hset hm1 0 1 0) 4 (58 + 7 * b + 0), hset hm1 0 1 0) from m_of _ (by omega) (by decide), bd_s, hs_cell _ _ _ _ 4 (by decide), Nat.add_zero, (hM.2.2.2.2.2.2 b hb).1, m_isOf hw.1 hw.2.1 hk, bd_s]
  rcases ik_01 (σ 7 b) k with e | e
  · rw [e, if_n0, if_n0]
    simp only [x_found, bd_s, m_finding, hs_hs]
    exact ⟨_, _, _, rfl, rfl, rel_status hR1 3⟩
  · rw [e, if_n1, if_n1]
    simp only [x_unfound, bd_s]
    exact ⟨_, _, _, rfl, rfl, rel_status hR1 0⟩
