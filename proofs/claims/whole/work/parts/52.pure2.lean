-- range tests as the class writes them
theorem nI_lt_le (n : Nat) (hn : n + 1 < 2 ^ 31) (x : Int32) : (nI n < x) = (nI (n + 1) ≤ x) := by
  rw [Int32.lt_iff_toInt_lt, Int32.le_iff_toInt_le, nI_toInt (by omega), nI_toInt (by omega)]
  apply propext
  omega
theorem nI_le_lt (n : Nat) (hn : n + 1 < 2 ^ 31) (x : Int32) : (x ≤ nI n) = ¬ (nI (n + 1) ≤ x) := by
  rw [Int32.le_iff_toInt_le, Int32.le_iff_toInt_le, nI_toInt (by omega), nI_toInt (by omega)]
  apply propext
  omega
theorem lt_le (n : Nat) (x : Int32) : (x < nI n) = ¬ (nI n ≤ x) := by
  rw [Int32.not_le]
theorem rg_if {α : Type} (x : Int32) (n : Nat) (P Q : α) : (if x < nI 0 then P else if nI n ≤ x then P else Q) = if rg x n = 0 then P else Q := by
  unfold rg
  show (if x < 0 then P else _) = _
  by_cases h0 : x < 0
  · rw [if_pos h0, if_pos h0, if_pos rfl]
  · rw [if_neg h0, if_neg h0]
    by_cases h1 : nI n ≤ x
    · rw [if_pos h1, if_pos h1, if_pos rfl]
    · rw [if_neg h1, if_neg h1, if_neg (by decide)]
theorem rg_if1 {α : Type} (x : Int32) (n : Nat) (hn : n + 1 < 2 ^ 31) (P Q : α) : (if x < nI 0 then P else if nI n < x then P else Q) = if rg x (n + 1) = 0 then P else Q := by
  simp only [nI_lt_le n hn]
  exact rg_if x (n + 1) P Q
theorem rg_if2 {α : Type} (x : Int32) (n : Nat) (hn : n + 1 < 2 ^ 31) (P Q : α) : (if x < nI 0 then P else if x ≤ nI n then Q else P) = if rg x (n + 1) = 0 then P else Q := by
  rw [← rg_if x (n + 1) P Q]
  by_cases h : x < nI 0
  · rw [if_pos h, if_pos h]
  · rw [if_neg h, if_neg h]
    by_cases h1 : nI (n + 1) ≤ x
    · rw [if_pos h1, if_neg (by rw [nI_le_lt n hn]; exact fun q => q h1)]
    · rw [if_neg h1, if_pos (by rw [nI_le_lt n hn]; exact h1)]
theorem rg_if3 {α : Type} (x : Int32) (n : Nat) (P Q : α) : (if x < nI 0 then P else if x < nI n then Q else P) = if rg x n = 0 then P else Q := by
  rw [← rg_if x n P Q]
  by_cases h : x < nI 0
  · rw [if_pos h, if_pos h]
  · rw [if_neg h, if_neg h]
    by_cases h1 : nI n ≤ x
    · rw [if_pos h1, if_neg (by rw [lt_le]; exact fun q => q h1)]
    · rw [if_neg h1, if_pos (by rw [lt_le]; exact h1)]
theorem m_in1 (x : Int32) (h : AH) : f_X8_in x.toInt64 0 1 h = some (rg x 2, h) := m_in x 2 (by decide) (by decide) (by decide) h
theorem m_in2 (x : Int32) (h : AH) : f_X8_in x.toInt64 0 2 h = some (rg x 3, h) := m_in x 3 (by decide) (by decide) (by decide) h
theorem m_in3 (x : Int32) (h : AH) : f_X8_in x.toInt64 0 3 h = some (rg x 4, h) := m_in x 4 (by decide) (by decide) (by decide) h
theorem m_in4 (x : Int32) (h : AH) : f_X8_in x.toInt64 0 4 h = some (rg x 5, h) := m_in x 5 (by decide) (by decide) (by decide) h
theorem m_in5 (x : Int32) (h : AH) : f_X8_in x.toInt64 0 5 h = some (rg x 6, h) := m_in x 6 (by decide) (by decide) (by decide) h
theorem m_in6 (x : Int32) (h : AH) : f_X8_in x.toInt64 0 6 h = some (rg x 7, h) := m_in x 7 (by decide) (by decide) (by decide) h
theorem m_in7 (x : Int32) (h : AH) : f_X8_in x.toInt64 0 7 h = some (rg x 8, h) := m_in x 8 (by decide) (by decide) (by decide) h
theorem m_in11 (x : Int32) (h : AH) : f_X8_in x.toInt64 0 11 h = some (rg x 12, h) := m_in x 12 (by decide) (by decide) (by decide) h
theorem m_in20 (x : Int32) (h : AH) : f_X8_in x.toInt64 0 20 h = some (rg x 21, h) := m_in x 21 (by decide) (by decide) (by decide) h
theorem m_in30 (x : Int32) (h : AH) : f_X8_in x.toInt64 0 30 h = some (rg x 31, h) := m_in x 31 (by decide) (by decide) (by decide) h
theorem ok_row (a0 a1 a2 : Int32) : OK2 Rel (fun h => f_X7_row 0 a0 a1 a2 h) (fun h => f_X8_row 0 a0 a1 a2 h) := by
  intro hx hm hR
  show ∃ r hx2 hm2, f_X7_row 0 a0 a1 a2 hx = some (r, hx2) ∧ f_X8_row 0 a0 a1 a2 hm = some (r, hm2) ∧ Rel hx2 hm2
  unfold f_X7_row f_X8_row
  have e2 : ∀ {α : Type} (P Q : α), (if a1 < 0 then P else if (2 : Int32) < a1 then P else Q) = if rg a1 3 = 0 then P else Q := fun P Q => rg_if1 a1 2 (by decide) P Q
  simp only [x_isRow, m_isRow, lt_s2, bd_s, m_in2, e2]
  rcases rg_cases a0 (n := 8) (by decide) with h0 | ⟨r, hr, rfl⟩
  · simp only [h0, if_true]
    exact ⟨_, _, _, rfl, rfl, rel_thrown hR⟩
  rcases rg_cases a1 (n := 3) (by decide) with h1 | ⟨l, hl, rfl⟩
  · simp only [h1, if_true, rg_in hr (by decide), if_neg (show ¬ (1 : Int32) = 0 by decide)]
    exact ⟨_, _, _, rfl, rfl, rel_thrown hR⟩
  simp only [rg_in hr (by decide), rg_in hl (by decide), if_neg (show ¬ (1 : Int32) = 0 by decide)]
  by_cases h2 : a2 ≤ 40
  · by_cases h3 : (0 : Int32) ≤ a2
    · obtain ⟨n, hn, rfl⟩ : ∃ n : Nat, n ≤ 40 ∧ a2 = nI n := nI_of2 (M := 40) (n := 40) (by decide) (Int32.not_lt.mpr h3) h2
      have eb : f_X5_begin (0 + 1) (nI r) (nI l) (nI n) hx = some ((), hput (hset (hset hx 2 r (nI l)) 3 r (nI n)) 4 (zs0 (hx 4) (40 * r) (40 * r + n))) := by
        unfold f_X5_begin
        simp (disch := omega) only [lt_s2, bd_s, bh_s, gz_0, gz_1, L0, L1, L2, L3, L4, L5, L6, L7, L8, L9, L10, L11, L12, L13, L14, L15, L16, L17, L18, L19, L20, L21, L22, L23, L24, L30, L31, L32, L36, L39, L40, L48, L57, L58, L59, L71, L72, L97, L99, L100, L122, L143, L144, L255, L320, L500, L720, L1000, L2300, L2400, nI_add, pk_mul, nI_leI, nI_ltI, nI_eqI, ck_nI, cl_nI, Nat.zero_add, Nat.add_zero, Nat.reduceAdd, Nat.reduceMul, if_pos, if_neg, if_true, if_false]
        rw [x_row_loop r n hr hn n fu 0 _ (by omega) (fu_ge _ (by omega))]
        rfl
      simp (disch := omega) only [if_pos h2, if_pos h3, eb, lt_s2, bd_s, x_unfound, ck_nI, cl_nI, Nat.zero_add, hs_hs]
      rw [L0, m_row_loop r hr (nI n) 40 fu 0 _ (by omega) (fu_ge _ (by omega))]
      refine ⟨nI n, _, _, rfl, rfl, ?_⟩
      refine rel_rows hR (fun c n0 n2 n3 n4 => ?_) (fun c n0 n1 n2 n3 => ?_) ?_ ?_ (fun k k0 k1 => ?_) ?_
      · rw [hs_cell _ _ _ _ _ n0, hput_ne _ _ n4, hs_cell _ _ _ _ _ n3, hs_cell _ _ _ _ _ n2]
      · rw [hput_ne _ _ n3, hs_cell _ _ _ _ _ n2, hs_cell _ _ _ _ _ n1, hs_cell _ _ _ _ _ n0, hs_cell _ _ _ _ _ n0]
      · rw [hs_self, hput_ne _ _ (by decide), hs_cell _ _ _ _ _ (by decide), hs_cell _ _ _ _ _ (by decide), hs_self]
      · rw [hs_place _ _ _ _ _ (by decide), hput_ne _ _ (by decide), hs_cell _ _ _ _ _ (by decide), hs_cell _ _ _ _ _ (by decide)]
      · rw [hput_ne _ _ (by decide), hs_cell _ _ _ _ _ (by decide), hs_cell _ _ _ _ _ (by decide), hs_place _ _ _ _ _ k1, hs_place _ _ _ _ _ k0]
      · intro r2 hr2
        simp only [zs0, hset, hput, upd, reduceIte, Nat.reduceEqDiff, if_true, if_false]
        by_cases e : r2 = r
        · subst e
          simp only [if_true]
          refine Or.inr ⟨n, l, hn, by omega, rfl, rfl, rfl, rfl, fun j hj => ?_⟩
          rw [if_pos (by omega), if_pos (by omega)]
        · simp only [if_neg e]
          rcases hR.2.1 r2 hr2 with h | ⟨n', l', q1, q2, q3, q4, q5, q6, q7⟩
          · exact Or.inl h
          · refine Or.inr ⟨n', l', q1, q2, q3, q4, q5, q6, fun j hj => ?_⟩
            rw [if_neg (by omega), if_neg (by omega)]
            exact q7 j hj
    · simp only [if_pos h2, if_neg h3, x_found, bd_s, m_finding, hs_hs]
      exact ⟨_, _, _, rfl, rfl, rel_status (rel_thrown hR) 4⟩
  · simp only [if_neg h2]
    exact ⟨_, _, _, rfl, rfl, rel_thrown hR⟩
theorem m1_ne {n : Nat} (h : n < 2 ^ 31) : ¬ nI n = -1 := by
  intro e
  have := congrArg Int32.toInt e
  rw [nI_toInt h] at this
  have h2 : (-1 : Int32).toInt = -1 := by decide
  omega
theorem x_missing {r : Nat} (hr : r < 8) (h : AH) : f_X5_isMissing (0 + 1) (nI r) h = some (if h 3 r = -1 then 1 else 0, h) := by
  unfold f_X5_isMissing
  simp (disch := omega) only [ck_nI, cl_nI, Nat.zero_add, Nat.reduceAdd]
  by_cases e : h 3 r = -1
  · rw [if_pos e, if_pos e]
  · rw [if_neg e, if_neg e]
theorem ok_drop (a0 : Int32) : OK2 Rel (fun h => f_X7_drop 0 a0 h) (fun h => f_X8_drop 0 a0 h) := by
  intro hx hm hR
  show ∃ r hx2 hm2, f_X7_drop 0 a0 hx = some (r, hx2) ∧ f_X8_drop 0 a0 hm = some (r, hm2) ∧ Rel hx2 hm2
  unfold f_X7_drop f_X8_drop
  simp only [x_isRow, m_isRow, lt_s2, bd_s]
  rcases rg_cases a0 (n := 8) (by decide) with h0 | ⟨r, hr, rfl⟩
  · simp only [h0, if_true]
    exact ⟨_, _, _, rfl, rfl, rel_thrown hR⟩
  simp (disch := omega) only [rg_in, if_neg (show ¬ (1 : Int32) = 0 by decide), x_missing hr, bd_s, ck_nI, cl_nI, Nat.zero_add, hs_hs]
  rcases hR.2.1 r hr with ⟨q1, q2⟩ | ⟨n, l, q1, q2, q3, q4, q5, q6, q7⟩
  · rw [q1, if_pos rfl, if_neg (by decide), hs_cell _ _ _ _ _ (by decide), hs_cell _ _ _ _ _ (by decide), q2, if_neg (by decide)]
    simp only [x_found, bd_s, m_finding, hs_hs]
    exact ⟨_, _, _, rfl, rfl, rel_status (rel_thrown hR) 1⟩
  · rw [q3, if_neg (m1_ne (by omega)), if_pos rfl, hs_cell _ _ _ _ _ (by decide), hs_cell _ _ _ _ _ (by decide), q5, if_pos (nI_pos' (by omega))]
    have er : f_X5_remove 1 (nI r) hx = some (nI n, hset hx 3 r (-1)) := by
      unfold f_X5_remove
      simp (disch := omega) only [ck_nI, cl_nI, lt_s2, Nat.reduceAdd, q3]
    rw [er]
    simp only [bd_s, x_unfound]
    rw [hs_cell _ _ _ _ _ (by decide), hs_cell _ _ _ _ _ (by decide), hs_cell _ _ _ _ _ (by decide), q6]
    refine ⟨nI n, _, _, rfl, rfl, ?_⟩
    refine rel_rows hR (fun c n0 n2 n3 n4 => ?_) (fun c n0 n1 n2 n3 => ?_) ?_ ?_ (fun k k0 k1 => ?_) ?_
    · rw [hs_cell _ _ _ _ _ n0, hs_cell _ _ _ _ _ n3]
    · rw [hs_cell _ _ _ _ _ n1, hs_cell _ _ _ _ _ n0, hs_cell _ _ _ _ _ n0]
    · rw [hs_self, hs_cell _ _ _ _ _ (by decide), hs_self]
    · rw [hs_place _ _ _ _ _ (by decide), hs_cell _ _ _ _ _ (by decide)]
    · rw [hs_cell _ _ _ _ _ (by decide), hs_place _ _ _ _ _ k1, hs_place _ _ _ _ _ k0]
    · intro r2 hr2
      simp only [hset, hput, upd, reduceIte, Nat.reduceEqDiff, if_true, if_false]
      by_cases e : r2 = r
      · subst e
        simp only [if_true, and_self, true_or]
      · simp only [if_neg e]
        exact hR.2.1 r2 hr2
