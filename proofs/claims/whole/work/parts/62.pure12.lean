-- set, copy
theorem bl_cpy (h : AH) (r0 n0 r1 n1 sp dp n : Nat) (h1 : sp + n ≤ n0) (h2 : dp + n ≤ n1) (b0 : n0 < 2 ^ 31) (b1 : n1 < 2 ^ 31) : cpy h r0 n0 (nI sp) r1 n1 (nI dp) (nI n) = some (hput h r1 (va_cpy (h r0) (h r1) sp dp n)) := by
  unfold cpy
  rw [cl_nI (by omega), cl_nI (by omega), cl_nI (by omega), if_neg]
  intro z
  rcases z with z | z | z | z | z
  · exact nI_pos (by omega) z
  · exact nI_pos (by omega) z
  · exact nI_pos (by omega) z
  · omega
  · omega
theorem x_hp0 {x2 x3 : Int32} (r : Int32) (h : AH) (hz : x2 < 0 ∨ x3 < 0) : f_X5_hasPlaces 1 r x2 x3 h = some (0, h) := by
  unfold f_X5_hasPlaces
  by_cases c : x2 < 0
  · rw [if_pos c]
  · rw [if_neg c, if_pos (hz.resolve_left c)]
theorem x_hp {r n i k : Nat} (hr : r < 8) (hn : n ≤ 40) (hi : i < 2 ^ 31) (hk : k < 2 ^ 31) {h : AH} (e : h 3 r = nI n) : f_X5_hasPlaces 1 (nI r) (nI i) (nI k) h = some (if i + k ≤ n then 1 else 0, h) := by
  unfold f_X5_hasPlaces
  rw [if_neg (nI_pos hi), if_neg (nI_pos hk), ck_nI _ hr (by decide), ck_nI _ hr (by decide), cl_nI (by omega), show h (1 + 2) r = nI n from e]
  by_cases c : n < i
  · rw [if_pos (nI_lt c hi), if_neg (by omega)]
  · rw [if_neg (nI_nlt (by omega) (by omega)), pk_sub (by omega)]
    by_cases c2 : n - i < k
    · rw [if_pos (nI_lt c2 hk), if_neg (by omega)]
    · rw [if_neg (nI_nlt (by omega) (by omega)), if_pos (by omega)]
def nar (l : Nat) (v : Int32) : Int32 := if l = 0 then v.toInt8.toInt32 else if l = 1 then v.toInt16.toInt32 else v
theorem x_put {r j l : Nat} (hr : r < 8) (hj : j < 40) (hl : l ≤ 2) {h : AH} (e : h 2 r = nI l) (v : Int32) : f_X5_put 1 (nI r) (nI j) v h = some (nar l v, hset h 4 (40 * r + j) (nar l v)) := by
  unfold f_X5_put f_X5_narrowed
  rw [ck_nI _ hr (by decide), cl_nI (by omega), show h (1 + 1) r = nI l from e]
  rcases (show l = 0 ∨ l = 1 ∨ l = 2 by omega) with rfl | rfl | rfl
  · rw [if_pos (show nI 0 = 0 from rfl), bd_s]
    simp (disch := omega) only [lt_s2, bd_s, bh_s, gz_0, gz_1, L0, L1, L2, L3, L4, L5, L6, L7, L8, L9, L10, L11, L12, L13, L14, L15, L16, L17, L18, L19, L20, L21, L22, L23, L24, L30, L31, L32, L36, L39, L40, L48, L57, L58, L59, L71, L72, L97, L99, L100, L122, L143, L144, L255, L320, L500, L720, L1000, L2300, L2400, nI_add, pk_mul, nI_leI, nI_ltI, nI_eqI, ck_nI, cl_nI, Nat.zero_add, Nat.add_zero, Nat.reduceAdd, Nat.reduceMul, if_pos, if_neg, if_true, if_false]
    rw [Nat.mul_comm r 40, hs_self]; rfl
  · rw [if_neg (show ¬ nI 1 = 0 by decide), if_pos (show nI 1 = 1 from rfl), bd_s]
    simp (disch := omega) only [lt_s2, bd_s, bh_s, gz_0, gz_1, L0, L1, L2, L3, L4, L5, L6, L7, L8, L9, L10, L11, L12, L13, L14, L15, L16, L17, L18, L19, L20, L21, L22, L23, L24, L30, L31, L32, L36, L39, L40, L48, L57, L58, L59, L71, L72, L97, L99, L100, L122, L143, L144, L255, L320, L500, L720, L1000, L2300, L2400, nI_add, pk_mul, nI_leI, nI_ltI, nI_eqI, ck_nI, cl_nI, Nat.zero_add, Nat.add_zero, Nat.reduceAdd, Nat.reduceMul, if_pos, if_neg, if_true, if_false]
    rw [Nat.mul_comm r 40, hs_self]; rfl
  · rw [if_neg (show ¬ nI 2 = 0 by decide), if_neg (show ¬ nI 2 = 1 by decide), bd_s]
    simp (disch := omega) only [lt_s2, bd_s, bh_s, gz_0, gz_1, L0, L1, L2, L3, L4, L5, L6, L7, L8, L9, L10, L11, L12, L13, L14, L15, L16, L17, L18, L19, L20, L21, L22, L23, L24, L30, L31, L32, L36, L39, L40, L48, L57, L58, L59, L71, L72, L97, L99, L100, L122, L143, L144, L255, L320, L500, L720, L1000, L2300, L2400, nI_add, pk_mul, nI_leI, nI_ltI, nI_eqI, ck_nI, cl_nI, Nat.zero_add, Nat.add_zero, Nat.reduceAdd, Nat.reduceMul, if_pos, if_neg, if_true, if_false]
    rw [Nat.mul_comm r 40, hs_self]; rfl
theorem m_set99 {r j : Nat} (hr : r < 8) (hj : j < 40) (h : AH) (v : Int32) : f_X8_set_99 0 (nI r) (nI j) v (40 * nI r + nI j) h = some (v, hset h 3 (40 * r + j) v) := by
  unfold f_X8_set_99
  simp (disch := omega) only [lt_s2, bd_s, bh_s, gz_0, gz_1, L0, L1, L2, L3, L4, L5, L6, L7, L8, L9, L10, L11, L12, L13, L14, L15, L16, L17, L18, L19, L20, L21, L22, L23, L24, L30, L31, L32, L36, L39, L40, L48, L57, L58, L59, L71, L72, L97, L99, L100, L122, L143, L144, L255, L320, L500, L720, L1000, L2300, L2400, nI_add, pk_mul, nI_leI, nI_ltI, nI_eqI, ck_nI, cl_nI, Nat.zero_add, Nat.add_zero, Nat.reduceAdd, Nat.reduceMul, if_pos, if_neg, if_true, if_false]
  rw [hs_self]
theorem ok_set (a0 a1 a2 : Int32) : OK2 Rel (fun h => f_X7_set 0 a0 a1 a2 h) (fun h => f_X8_set 0 a0 a1 a2 h) := by
  intro hx hm hR
  show ∃ r hx2 hm2, f_X7_set 0 a0 a1 a2 hx = some (r, hx2) ∧ f_X8_set 0 a0 a1 a2 hm = some (r, hm2) ∧ Rel hx2 hm2
  have hR1 := rel_thrown hR
  unfold f_X7_set f_X8_set
  rw [lt_s2 (hset hm 0 0 0)]
  generalize hset hm 0 0 0 = hm1 at hR1 ⊢
  simp only [x_isRow, m_isRow, bd_s]
  rcases rg_cases a0 (n := 8) (by decide) with h0 | ⟨r, hr, rfl⟩
  · simp only [h0, if_true]
    exact ⟨_, _, _, rfl, rfl, hR1⟩
  simp (disch := omega) only [rg_in, if_neg n10, x_missing hr, bd_s, ck_nI, cl_nI, Nat.zero_add, lt_s2]
  rw [hs_cell _ _ _ _ _ (by decide), hs_cell _ _ _ _ _ (by decide)]
  rcases hR1.2.1 r hr with ⟨q1, q2⟩ | ⟨n, l, q1, q2, q3, q4, q5, q6, q7⟩
  · rw [q1, if_pos rfl, if_neg (by decide), q2, if_neg (by decide)]
    simp only [x_found, bd_s, m_finding, hs_hs]
    exact ⟨_, _, _, rfl, rfl, rel_status hR1 1⟩
  · rw [q3, if_neg (m1_ne (by omega)), if_pos rfl, q5, if_pos (nI_pos' (by omega)), q6, m_inC a1 n (by omega), bd_s]
    rcases rg_cases a1 (n := n) (by omega) with h0 | ⟨j, hj, rfl⟩
    · have e : f_X5_hasPlaces 1 (nI r) a1 1 hx = some (0, hx) := by
        by_cases c : a1 < 0
        · exact x_hp0 _ _ (Or.inl c)
        · obtain ⟨i, hi, rfl⟩ := nI_of c
          rw [L1, x_hp hr q1 hi (by decide) q3, if_neg]
          intro z
          rw [rg_in (show i < n by omega) (by omega)] at h0
          exact absurd h0 (by decide)
      rw [e, bd_s, if_pos rfl, h0, if_pos rfl]
      simp only [x_found, bd_s, m_finding, hs_hs]
      exact ⟨_, _, _, rfl, rfl, rel_status hR1 2⟩
    · rw [rg_in hj (by omega), if_neg n10, L1, x_hp hr q1 (by omega) (by decide) q3, if_pos (by omega), bd_s, if_neg n10, x_put hr (by omega) q2 q4, bd_s, hs_cell _ _ _ _ _ (by decide), q5]
      have e : (if nI l = 0 then f_X8_set_99 0 (nI r) (nI j) a2.toInt8.toInt32 (40 * nI r + nI j) (hset hm1 0 1 0) else if nI l = nI 1 then f_X8_set_99 0 (nI r) (nI j) a2.toInt16.toInt32 (40 * nI r + nI j) (hset hm1 0 1 0) else f_X8_set_99 0 (nI r) (nI j) a2 (40 * nI r + nI j) (hset hm1 0 1 0)) = some (nar l a2, hset (hset hm1 0 1 0) 3 (40 * r + j) (nar l a2)) := by
        rcases (show l = 0 ∨ l = 1 ∨ l = 2 by omega) with rfl | rfl | rfl
        · rw [if_pos (show nI 0 = 0 from rfl), m_set99 hr (by omega)]; rfl
        · rw [if_neg (show ¬ nI 1 = 0 by decide), if_pos rfl, m_set99 hr (by omega)]; rfl
        · rw [if_neg (show ¬ nI 2 = 0 by decide), if_neg (show ¬ nI 2 = nI 1 by decide), m_set99 hr (by omega)]; rfl
      rw [e]
      simp only [x_unfound, bd_s]
      refine ⟨_, _, _, rfl, rfl, rel_rows hR1 (fun c n0 n2 n3 n4 => ?_) (fun c n0 n1 n2 n3 => ?_) ?_ ?_ (fun k k0 k1 => ?_) ?_⟩
      · rw [hs_cell _ _ _ _ _ n0, hs_cell _ _ _ _ _ n4]
      · rw [hs_cell _ _ _ _ _ n3, hs_cell _ _ _ _ _ n0]
      · rw [hs_self, hs_cell _ _ _ _ _ (by decide), hs_self]
      · rw [hs_place _ _ _ _ _ (by decide), hs_cell _ _ _ _ _ (by decide)]
      · rw [hs_cell _ _ _ _ _ (by decide), hs_place _ _ _ _ _ k1]
      · intro r2 hr2
        rcases hR1.2.1 r2 hr2 with h | ⟨n', l', z1, z2, z3, z4, z5, z6, z7⟩
        · simp only [hset, hput, upd, reduceIte, Nat.reduceEqDiff, if_true, if_false]
          exact Or.inl h
        · simp only [hset, hput, upd, reduceIte, Nat.reduceEqDiff, if_true, if_false]
          refine Or.inr ⟨n', l', z1, z2, z3, z4, z5, z6, fun j2 hj2 => ?_⟩
          by_cases c : 40 * r2 + j2 = 40 * r + j
          · rw [if_pos c, if_pos c]
          · rw [if_neg c, if_neg c]
            exact z7 j2 hj2
theorem m_cp167 {a i b j t : Nat} (ha : 40 * a + i + t < 320) (hb : 40 * b + j + t < 320) (K : Int32 → Int32 → Int32 → Int32 → Int32 → Int32 → Int32 → AH → Option (Int32 × AH)) (x5 x6 x7 : Int32) (h : AH) : f_X8_copy_167 0 K (nI a) (nI i) (nI b) (nI j) x5 x6 x7 (nI t) h = K (nI a) (nI i) (nI b) (nI j) x5 x6 (x7 + 1) (hset h 3 (40 * b + j + t) (h 3 (40 * a + i + t))) := by
  unfold f_X8_copy_167
  simp (disch := omega) only [L40, pk_mul, nI_add, lt_s2, ck_nI, cl_nI, Nat.zero_add]
theorem m_cpUp {a i b j n : Nat} (ha : 40 * a + i + n ≤ 320) (hb : 40 * b + j + n ≤ 320) (W : Nat → Int32) (hd : 40 * b + j ≤ 40 * a + i ∨ 40 * a + i + n ≤ 40 * b + j) : ∀ (k fuel t : Nat) (h : AH), t + k = n → k < fuel → h 3 = va_cpy W W (40 * a + i) (40 * b + j) t → f_X8_copy_143 0 fuel (nI a) (nI i) (nI b) (nI j) (nI n) 1 (nI t) h = some (nI n, hput h 3 (va_cpy W W (40 * a + i) (40 * b + j) n)) := by
  intro k
  induction k with
  | zero =>
    intro fuel t h e hf e3
    obtain ⟨f, rfl⟩ : ∃ f, fuel = f + 1 := ⟨fuel - 1, by omega⟩
    have : t = n := by omega
    subst this
    rw [f_X8_copy_143, if_pos (nI_le (Nat.le_refl _) (by omega)), ← e3, hput_id]
  | succ k ih =>
    intro fuel t h e hf e3
    obtain ⟨f, rfl⟩ : ∃ f, fuel = f + 1 := ⟨fuel - 1, by omega⟩
    rw [f_X8_copy_143, if_neg (nI_ge (by omega) (by omega)), if_neg n10, m_cp167 (by omega) (by omega), L1, nI_add, ← L1, ih f (t + 1) _ (by omega) (by omega) ?_, hput_hset]
    rw [hs_row, e3, pk_cpy_out (j := 40 * a + i + t) (by omega)]
    funext x
    unfold upd va_cpy
    by_cases c : x = 40 * b + j + t
    · rw [if_pos c, if_pos (by omega)]
      congr 1
      omega
    · rw [if_neg c]
      by_cases c2 : 40 * b + j ≤ x ∧ x < 40 * b + j + t
      · rw [if_pos c2, if_pos (by omega)]
      · rw [if_neg c2, if_neg (by omega)]
theorem m_cpDn {a i b j n : Nat} (ha : 40 * a + i + n ≤ 320) (hb : 40 * b + j + n ≤ 320) (W : Nat → Int32) (hd : 40 * a + i ≤ 40 * b + j ∨ 40 * b + j + n ≤ 40 * a + i) : ∀ (k fuel t : Nat) (h : AH), t + k = n → k < fuel → h 3 = va_cpy W W (40 * a + i + k) (40 * b + j + k) t → f_X8_copy_143 0 fuel (nI a) (nI i) (nI b) (nI j) (nI n) 0 (nI t) h = some (nI n, hput h 3 (va_cpy W W (40 * a + i) (40 * b + j) n)) := by
  intro k
  induction k with
  | zero =>
    intro fuel t h e hf e3
    obtain ⟨f, rfl⟩ : ∃ f, fuel = f + 1 := ⟨fuel - 1, by omega⟩
    have : t = n := by omega
    subst this
    rw [Nat.add_zero, Nat.add_zero] at e3
    rw [f_X8_copy_143, if_pos (nI_le (Nat.le_refl _) (by omega)), ← e3, hput_id]
  | succ k ih =>
    intro fuel t h e hf e3
    obtain ⟨f, rfl⟩ : ∃ f, fuel = f + 1 := ⟨fuel - 1, by omega⟩
    rw [f_X8_copy_143, if_neg (nI_ge (by omega) (by omega)), if_pos rfl, L1, pk_sub (by omega), pk_sub (by omega), show n - 1 - t = k by omega, m_cp167 (by omega) (by omega), L1, nI_add, ih f (t + 1) _ (by omega) (by omega) ?_, hput_hset]
    rw [hs_row, e3, pk_cpy_out (j := 40 * a + i + k) (by omega)]
    funext x
    unfold upd va_cpy
    by_cases c : x = 40 * b + j + k
    · rw [if_pos c, if_pos (by omega)]
      congr 1
      omega
    · rw [if_neg c]
      by_cases c2 : 40 * b + j + (k + 1) ≤ x ∧ x < 40 * b + j + (k + 1) + t
      · rw [if_pos c2, if_pos (by omega)]
        congr 1
        omega
      · rw [if_neg c2, if_neg (by omega)]
theorem lN_big {n : Nat} (h : n < 2 ^ 40) : (lN n).toInt = (n : Int) := Int64.toInt_ofNat_of_lt (by omega)
theorem lg_big {i n m : Nat} (hi : i < 2 ^ 31) (hn : n < 2 ^ 31) (hm : m < 2 ^ 31) : (0 < lg_cmp ((nI i).toInt64 + (nI n).toInt64) (nI m).toInt64) = (m < i + n) := by
  rw [nI_l hi, nI_l hn, nI_l hm, lN_add, lg_gt, Int64.lt_iff_toInt_lt, lN_big (by omega), lN_big (by omega)]
  apply propext
  omega
theorem m_copy {a i b j n : Nat} (ha : a < 8) (hb : b < 8) (hi : i + n ≤ 40) (hj : j + n ≤ 40) (h : AH) : (if nI i < nI j then f_X8_copy_143 0 fu (nI a) (nI i) (nI b) (nI j) (nI n) 0 0 h else f_X8_copy_143 0 fu (nI a) (nI i) (nI b) (nI j) (nI n) 1 0 h) = some (nI n, hput h 3 (va_cpy (h 3) (h 3) (40 * a + i) (40 * b + j) n)) := by
  have e0 : ∀ s d, h 3 = va_cpy (h 3) (h 3) s d 0 := fun s d => funext fun x => by rw [pk_cpy_out (by omega)]
  by_cases c : i < j
  · rw [if_pos (nI_lt c (by omega)), show (0 : Int32) = nI 0 from rfl]
    exact m_cpDn (by omega) (by omega) (h 3) (by omega) n fu 0 h (by omega) (fu_ge _ (by omega)) (e0 _ _)
  · rw [if_neg (nI_nlt (by omega) (by omega)), show (0 : Int32) = nI 0 from rfl]
    exact m_cpUp (by omega) (by omega) (h 3) (by omega) n fu 0 h (by omega) (fu_ge _ (by omega)) (e0 _ _)
theorem ok_copy (a0 a1 a2 a3 a4 : Int32) : OK2 Rel (fun h => f_X7_copy 0 a0 a1 a2 a3 a4 h) (fun h => f_X8_copy 0 a0 a1 a2 a3 a4 h) := by
  intro hx hm hR
  show ∃ r hx2 hm2, f_X7_copy 0 a0 a1 a2 a3 a4 hx = some (r, hx2) ∧ f_X8_copy 0 a0 a1 a2 a3 a4 hm = some (r, hm2) ∧ Rel hx2 hm2
  have hR1 := rel_thrown hR
  unfold f_X7_copy f_X8_copy
  rw [lt_s2 (hset hm 0 0 0)]
  generalize hset hm 0 0 0 = hm1 at hR1 ⊢
  simp only [x_isRow, m_isRow, bd_s]
  rcases rg_cases a0 (n := 8) (by decide) with h0 | ⟨a, ha, rfl⟩
  · simp only [h0, if_true]
    exact ⟨_, _, _, rfl, rfl, hR1⟩
  rcases rg_cases a2 (n := 8) (by decide) with h0 | ⟨b, hb, rfl⟩
  · simp only [h0, if_true, rg_in ha (by decide), if_neg n10]
    exact ⟨_, _, _, rfl, rfl, hR1⟩
  unfold f_X5_laneOf
  simp only [rg_in ha (show 8 < 2 ^ 31 by decide), rg_in hb (show 8 < 2 ^ 31 by decide), if_neg n10, x_missing ha, x_missing hb, bd_s, ck_nI _ ha (show 8 < 2 ^ 31 by decide), ck_nI _ hb (show 8 < 2 ^ 31 by decide), cl_nI (show a < 2 ^ 31 by omega), cl_nI (show b < 2 ^ 31 by omega), Nat.zero_add, lt_s2, hs_cell _ 0 _ _ 1 (show 1 ≠ 0 by decide), hs_cell _ 0 _ _ 2 (show 2 ≠ 0 by decide), Nat.reduceAdd, x_found, m_finding, hs_hs]
  rcases hR1.2.1 a ha with ⟨q1, q2⟩ | ⟨na, la, q1, q2, q3, q4, q5, q6, q7⟩
  · simp only [q1, q2, if_true, if_neg n10, if_pos (show (-1 : Int32) < 0 by decide)]
    exact ⟨_, _, _, rfl, rfl, rel_status hR1 1⟩
  simp only [q3, q5, if_neg (m1_ne (show na < 2 ^ 31 by omega)), if_neg (nI_pos (show la < 2 ^ 31 by omega)), if_true]
  rcases hR1.2.1 b hb with ⟨s1, s2⟩ | ⟨nb, lb, s1, s2, s3, s4, s5, s6, s7⟩
  · simp only [s1, s2, if_true, if_neg n10, if_neg (show ¬ (0 : Int32) ≤ -1 by decide)]
    exact ⟨_, _, _, rfl, rfl, rel_status hR1 1⟩
  simp only [s3, s5, if_neg (m1_ne (show nb < 2 ^ 31 by omega)), if_pos (nI_pos' (show lb < 2 ^ 31 by omega)), if_true, q4, s4]
  by_cases cl : nI la = nI lb
  rotate_left
  · simp only [if_neg cl]
    exact ⟨_, _, _, rfl, rfl, rel_status hR1 5⟩
  simp only [if_pos cl, q6, s6]
  by_cases c1 : a1 < 0
  · simp only [if_pos c1, x_hp0 _ _ (Or.inl c1), bd_s, if_true]
    exact ⟨_, _, _, rfl, rfl, rel_status hR1 2⟩
  by_cases c5 : a4 < 0
  · simp only [if_neg c1, if_pos c5, ite_self, x_hp0 _ _ (Or.inr c5), bd_s, if_true]
    exact ⟨_, _, _, rfl, rfl, rel_status hR1 2⟩
  obtain ⟨i, hi, rfl⟩ := nI_of c1
  obtain ⟨n, hn, rfl⟩ := nI_of c5
  simp only [if_neg c1, if_neg c5, x_hp ha q1 hi hn q3, bd_s]
  by_cases c3 : a3 < 0
  · simp only [if_pos c3, x_hp0 _ _ (Or.inl c3), bd_s, if_true, ite_self]
    exact ⟨_, _, _, rfl, rfl, rel_status hR1 2⟩
  obtain ⟨j, hj, rfl⟩ := nI_of c3
  have lgn : (lg_cmp ((nI j).toInt64 + (nI n).toInt64) (nI nb).toInt64 ≤ 0) = ¬ (nb < j + n) := by
    rw [← lg_big hj hn (show nb < 2 ^ 31 by omega)]
    apply propext
    rw [Int32.not_lt]
  simp only [if_neg c3, x_hp hb s1 hj hn s3, bd_s, lg_big hi hn (show na < 2 ^ 31 by omega), lgn]
  by_cases k1 : i + n ≤ na
  rotate_left
  · simp only [if_neg k1, if_pos (show na < i + n by omega), if_true]
    exact ⟨_, _, _, rfl, rfl, rel_status hR1 2⟩
  by_cases k2 : j + n ≤ nb
  rotate_left
  · simp only [if_pos k1, if_neg k2, if_neg (show ¬ na < i + n by omega), if_neg (show ¬ ¬ nb < j + n by omega), if_true, if_neg n10]
    exact ⟨_, _, _, rfl, rfl, rel_status hR1 2⟩
  simp only [if_pos k1, if_pos k2, if_neg (show ¬ na < i + n by omega), if_neg n10, if_pos (show ¬ nb < j + n by omega)]
  rw [m_copy ha hb (by omega) (by omega)]
  unfold f_X5_move
  rw [L40, pk_mul, pk_mul, nI_add, nI_add, Nat.mul_comm a, Nat.mul_comm b, bl_cpy _ _ _ _ _ _ _ _ (by omega) (by omega) (by decide) (by decide), bh_s, bd_s]
  simp only [x_unfound, bd_s, Nat.reduceAdd]
  refine ⟨_, _, _, rfl, rfl, rel_rows hR1 (fun c n0 n2 n3 n4 => ?_) (fun c n0 n1 n2 n3 => ?_) ?_ ?_ (fun k k0 k1 => ?_) ?_⟩
  · rw [hs_cell _ _ _ _ _ n0, hput_ne _ _ n4]
  · rw [hput_ne _ _ n3, hs_cell _ _ _ _ _ n0]
  · rw [hs_self, hput_ne _ _ (by decide), hs_self]
  · rw [hs_place _ _ _ _ _ (by decide), hput_ne _ _ (by decide)]
  · rw [hput_ne _ _ (by decide), hs_place _ _ _ _ _ k1]
  · intro r2 hr2
    rcases hR1.2.1 r2 hr2 with h | ⟨n', l', z1, z2, z3, z4, z5, z6, z7⟩
    · simp only [hset, hput, upd, reduceIte, Nat.reduceEqDiff, if_true, if_false]
      exact Or.inl h
    · rw [hs_cell _ _ _ _ 2 (by decide), hs_cell _ _ _ _ 3 (by decide), hs_cell _ _ _ _ 4 (by decide), hput_ne _ (r := 4) (a := 2) _ (by decide), hput_ne _ (r := 4) (a := 3) _ (by decide), hput_self, hput_ne _ (r := 3) (a := 1) _ (by decide), hput_ne _ (r := 3) (a := 2) _ (by decide), hput_self, hs_cell _ _ _ _ 1 (by decide), hs_cell _ _ _ _ 2 (by decide), hs_cell _ _ _ _ 3 (by decide)]
      refine Or.inr ⟨n', l', z1, z2, z3, z4, z5, z6, fun j2 hj2 => ?_⟩
      by_cases c : 40 * b + j ≤ 40 * r2 + j2 ∧ 40 * r2 + j2 < 40 * b + j + n
      · rw [pk_cpy_in c.1 c.2, pk_cpy_in c.1 c.2, show 40 * a + i + (40 * r2 + j2 - (40 * b + j)) = 40 * a + (i + (40 * r2 + j2 - (40 * b + j))) by omega]
        exact q7 _ (by omega)
      · rw [pk_cpy_out (by omega), pk_cpy_out (by omega)]
        exact z7 j2 hj2
