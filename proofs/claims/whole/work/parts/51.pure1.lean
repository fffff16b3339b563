theorem rel_rows {hx hm hx2 hm2 : AH} (hR : Rel hx hm) (ex : ∀ c, c ≠ 0 → c ≠ 2 → c ≠ 3 → c ≠ 4 →  hx2 c = hx c) (em : ∀ c, c ≠ 0 → c ≠ 1 → c ≠ 2 → c ≠ 3 →  hm2 c = hm c) (e0 : hx2 0 10 = hm2 0 1) (e9 : hx2 0 9 = hx 0 9) (f7 : ∀ k, k ≠ 0 → k ≠ 1 → hm2 0 k = hm 0 k) (hr : RR (hx2 2) (hx2 3) (hx2 4) (hm2 1) (hm2 2) (hm2 3)) : Rel hx2 hm2 := by
  obtain ⟨⟨r1, r2⟩, r3, r4, ⟨σ, b1, b2, b3, b4, b5⟩, r6, r7, r8⟩ := hR
  have x5 := ex 5 (by decide) (by decide) (by decide) (by decide)
  have x6 := ex 6 (by decide) (by decide) (by decide) (by decide)
  have x17 := ex 17 (by decide) (by decide) (by decide) (by decide)
  have x18 := ex 18 (by decide) (by decide) (by decide) (by decide)
  have x19 := ex 19 (by decide) (by decide) (by decide) (by decide)
  have x20 := ex 20 (by decide) (by decide) (by decide) (by decide)
  have x21 := ex 21 (by decide) (by decide) (by decide) (by decide)
  have x22 := ex 22 (by decide) (by decide) (by decide) (by decide)
  have x23 := ex 23 (by decide) (by decide) (by decide) (by decide)
  have x24 := ex 24 (by decide) (by decide) (by decide) (by decide)
  have x25 := ex 25 (by decide) (by decide) (by decide) (by decide)
  have x26 := ex 26 (by decide) (by decide) (by decide) (by decide)
  have x27 := ex 27 (by decide) (by decide) (by decide) (by decide)
  have x28 := ex 28 (by decide) (by decide) (by decide) (by decide)
  have x29 := ex 29 (by decide) (by decide) (by decide) (by decide)
  have x30 := ex 30 (by decide) (by decide) (by decide) (by decide)
  have x31 := ex 31 (by decide) (by decide) (by decide) (by decide)
  have x32 := ex 32 (by decide) (by decide) (by decide) (by decide)
  have x33 := ex 33 (by decide) (by decide) (by decide) (by decide)
  have x34 := ex 34 (by decide) (by decide) (by decide) (by decide)
  have x35 := ex 35 (by decide) (by decide) (by decide) (by decide)
  have x36 := ex 36 (by decide) (by decide) (by decide) (by decide)
  have x37 := ex 37 (by decide) (by decide) (by decide) (by decide)
  have x38 := ex 38 (by decide) (by decide) (by decide) (by decide)
  have x39 := ex 39 (by decide) (by decide) (by decide) (by decide)
  have x40 := ex 40 (by decide) (by decide) (by decide) (by decide)
  have x41 := ex 41 (by decide) (by decide) (by decide) (by decide)
  have x42 := ex 42 (by decide) (by decide) (by decide) (by decide)
  have x43 := ex 43 (by decide) (by decide) (by decide) (by decide)
  have x44 := ex 44 (by decide) (by decide) (by decide) (by decide)
  have x45 := ex 45 (by decide) (by decide) (by decide) (by decide)
  have x46 := ex 46 (by decide) (by decide) (by decide) (by decide)
  have x47 := ex 47 (by decide) (by decide) (by decide) (by decide)
  have x48 := ex 48 (by decide) (by decide) (by decide) (by decide)
  have x56 := ex 56 (by decide) (by decide) (by decide) (by decide)
  have x58 := ex 58 (by decide) (by decide) (by decide) (by decide)
  have x59 := ex 59 (by decide) (by decide) (by decide) (by decide)
  have y4 := em 4 (by decide) (by decide) (by decide) (by decide)
  have y6 := em 6 (by decide) (by decide) (by decide) (by decide)
  have y7 := em 7 (by decide) (by decide) (by decide) (by decide)
  have y16 := em 16 (by decide) (by decide) (by decide) (by decide)
  have y17 := em 17 (by decide) (by decide) (by decide) (by decide)
  have y18 := em 18 (by decide) (by decide) (by decide) (by decide)
  have g7 := f7 7 (by decide) (by decide)
  have g9 := f7 9 (by decide) (by decide)
  have g11 := f7 11 (by decide) (by decide)
  have g12 := f7 12 (by decide) (by decide)
  have g33 := f7 33 (by decide) (by decide)
  unfold Rel RB
  rw [g7, g9, g11, g12, g33, e9]
  simp only [x5, x6, x17, x18, x19, x20, x21, x22, x23, x24, x25, x26, x27, x28, x29, x30, x31, x32, x33, x34, x35, x36, x37, x38, x39, x40, x41, x42, x43, x44, x45, x46, x47, x48, x56, x58, x59, y4, y6, y7, y16, y17, y18]
  exact ⟨⟨e0, r2⟩, hr, r4, ⟨σ, b1, b2, b3, b4, b5⟩, r6, r7, r8⟩
theorem rel_cell0 {hx hm hx2 hm2 : AH} (hR : Rel hx hm) (ex : ∀ c, c ≠ 0 →  hx2 c = hx c) (em : ∀ c, c ≠ 0 →  hm2 c = hm c) (e0 : hx2 0 10 = hm2 0 1) (e9 : hx2 0 9 = hm2 0 12) (f7 : hm2 0 7 = hm 0 7) (f9 : hm2 0 9 = hm 0 9) (f11 : hm2 0 11 = hm 0 11) (f33 : hm2 0 33 = hm 0 33) : Rel hx2 hm2 := by
  obtain ⟨⟨r1, r2⟩, r3, r4, ⟨σ, b1, b2, b3, b4, b5⟩, r6, r7, r8⟩ := hR
  have x2 := ex 2 (by decide)
  have x3 := ex 3 (by decide)
  have x4 := ex 4 (by decide)
  have x5 := ex 5 (by decide)
  have x6 := ex 6 (by decide)
  have x17 := ex 17 (by decide)
  have x18 := ex 18 (by decide)
  have x19 := ex 19 (by decide)
  have x20 := ex 20 (by decide)
  have x21 := ex 21 (by decide)
  have x22 := ex 22 (by decide)
  have x23 := ex 23 (by decide)
  have x24 := ex 24 (by decide)
  have x25 := ex 25 (by decide)
  have x26 := ex 26 (by decide)
  have x27 := ex 27 (by decide)
  have x28 := ex 28 (by decide)
  have x29 := ex 29 (by decide)
  have x30 := ex 30 (by decide)
  have x31 := ex 31 (by decide)
  have x32 := ex 32 (by decide)
  have x33 := ex 33 (by decide)
  have x34 := ex 34 (by decide)
  have x35 := ex 35 (by decide)
  have x36 := ex 36 (by decide)
  have x37 := ex 37 (by decide)
  have x38 := ex 38 (by decide)
  have x39 := ex 39 (by decide)
  have x40 := ex 40 (by decide)
  have x41 := ex 41 (by decide)
  have x42 := ex 42 (by decide)
  have x43 := ex 43 (by decide)
  have x44 := ex 44 (by decide)
  have x45 := ex 45 (by decide)
  have x46 := ex 46 (by decide)
  have x47 := ex 47 (by decide)
  have x48 := ex 48 (by decide)
  have x56 := ex 56 (by decide)
  have x58 := ex 58 (by decide)
  have x59 := ex 59 (by decide)
  have y1 := em 1 (by decide)
  have y2 := em 2 (by decide)
  have y3 := em 3 (by decide)
  have y4 := em 4 (by decide)
  have y6 := em 6 (by decide)
  have y7 := em 7 (by decide)
  have y16 := em 16 (by decide)
  have y17 := em 17 (by decide)
  have y18 := em 18 (by decide)
  unfold Rel RB
  rw [f7, f9, f11, f33]
  simp only [x2, x3, x4, x5, x6, x17, x18, x19, x20, x21, x22, x23, x24, x25, x26, x27, x28, x29, x30, x31, x32, x33, x34, x35, x36, x37, x38, x39, x40, x41, x42, x43, x44, x45, x46, x47, x48, x56, x58, x59, y1, y2, y3, y4, y6, y7, y16, y17, y18]
  exact ⟨⟨e0, e9⟩, r3, r4, ⟨σ, b1, b2, b3, b4, b5⟩, r6, r7, r8⟩
theorem hs_cell (h : AH) (r k : Nat) (v : Int32) (c : Nat) (n : c ≠ r) : hset h r k v c = h c := hput_ne h _ n
theorem hs_self (h : AH) (r k : Nat) (v : Int32) : hset h r k v r k = v := by simp [hset, hput, upd]
theorem hs_place (h : AH) (r k j : Nat) (v : Int32) (n : j ≠ k) : hset h r k v r j = h r j := by simp [hset, hput, upd, n]
theorem hs_row (h : AH) (r k : Nat) (v : Int32) : hset h r k v r = upd (h r) k v := by simp [hset, hput]
/-- the model's first act: nothing is thrown -/
theorem rel_thrown {hx hm : AH} (hR : Rel hx hm) : Rel hx (hset hm 0 0 0) := by
  have h1 := hR.1
  refine rel_cell0 hR (fun c _ => rfl) (fun c n => hs_cell _ _ _ _ c n) ?_ ?_ ?_ ?_ ?_ ?_
  · rw [hs_place _ _ _ _ _ (by decide)]; exact h1.1
  · rw [hs_place _ _ _ _ _ (by decide)]; exact h1.2
  · rw [hs_place _ _ _ _ _ (by decide)]
  · rw [hs_place _ _ _ _ _ (by decide)]
  · rw [hs_place _ _ _ _ _ (by decide)]
  · rw [hs_place _ _ _ _ _ (by decide)]
theorem rel_status {hx hm : AH} (hR : Rel hx hm) (v : Int32) : Rel (hset hx 0 10 v) (hset hm 0 1 v) := by
  have h1 := hR.1
  refine rel_cell0 hR (fun c n => hs_cell _ _ _ _ c n) (fun c n => hs_cell _ _ _ _ c n) ?_ ?_ ?_ ?_ ?_ ?_
  · rw [hs_self, hs_self]
  · rw [hs_place _ _ _ _ _ (by decide), hs_place _ _ _ _ _ (by decide)]; exact h1.2
  · rw [hs_place _ _ _ _ _ (by decide)]
  · rw [hs_place _ _ _ _ _ (by decide)]
  · rw [hs_place _ _ _ _ _ (by decide)]
  · rw [hs_place _ _ _ _ _ (by decide)]
theorem hs_hs (h : AH) (r k : Nat) (v w : Int32) : hset (hset h r k v) r k w = hset h r k w := by
  funext a j
  by_cases ha : a = r
  · subst ha
    by_cases hj : j = k
    · subst hj; rw [hs_self, hs_self]
    · rw [hs_place _ _ _ _ _ hj, hs_place _ _ _ _ _ hj, hs_place _ _ _ _ _ hj]
  · rw [hs_cell _ _ _ _ _ ha, hs_cell _ _ _ _ _ ha, hs_cell _ _ _ _ _ ha]
theorem x_found (v : Int32) (h : AH) : f_X7_found 0 v h = some (-1000010 - v, hset h 0 10 v) := rfl
theorem x_unfound (v : Int32) (h : AH) : f_X7_unfound 0 v h = some (v, hset h 0 10 0) := rfl
theorem m_finding (v : Int32) (h : AH) : f_X8_finding 0 v h = some (-1000010 - v, hset h 0 1 v) := rfl
theorem L0 : (0 : Int32) = nI 0 := rfl
theorem L1 : (1 : Int32) = nI 1 := rfl
theorem L2 : (2 : Int32) = nI 2 := rfl
theorem L3 : (3 : Int32) = nI 3 := rfl
theorem L4 : (4 : Int32) = nI 4 := rfl
theorem L5 : (5 : Int32) = nI 5 := rfl
theorem L6 : (6 : Int32) = nI 6 := rfl
theorem L7 : (7 : Int32) = nI 7 := rfl
theorem L8 : (8 : Int32) = nI 8 := rfl
theorem L9 : (9 : Int32) = nI 9 := rfl
theorem L10 : (10 : Int32) = nI 10 := rfl
theorem L11 : (11 : Int32) = nI 11 := rfl
theorem L12 : (12 : Int32) = nI 12 := rfl
theorem L13 : (13 : Int32) = nI 13 := rfl
theorem L14 : (14 : Int32) = nI 14 := rfl
theorem L15 : (15 : Int32) = nI 15 := rfl
theorem L16 : (16 : Int32) = nI 16 := rfl
theorem L17 : (17 : Int32) = nI 17 := rfl
theorem L18 : (18 : Int32) = nI 18 := rfl
theorem L19 : (19 : Int32) = nI 19 := rfl
theorem L20 : (20 : Int32) = nI 20 := rfl
theorem L21 : (21 : Int32) = nI 21 := rfl
theorem L22 : (22 : Int32) = nI 22 := rfl
theorem L23 : (23 : Int32) = nI 23 := rfl
theorem L24 : (24 : Int32) = nI 24 := rfl
theorem L30 : (30 : Int32) = nI 30 := rfl
theorem L31 : (31 : Int32) = nI 31 := rfl
theorem L32 : (32 : Int32) = nI 32 := rfl
theorem L36 : (36 : Int32) = nI 36 := rfl
theorem L39 : (39 : Int32) = nI 39 := rfl
theorem L40 : (40 : Int32) = nI 40 := rfl
theorem L48 : (48 : Int32) = nI 48 := rfl
theorem L57 : (57 : Int32) = nI 57 := rfl
theorem L58 : (58 : Int32) = nI 58 := rfl
theorem L59 : (59 : Int32) = nI 59 := rfl
theorem L71 : (71 : Int32) = nI 71 := rfl
theorem L72 : (72 : Int32) = nI 72 := rfl
theorem L97 : (97 : Int32) = nI 97 := rfl
theorem L99 : (99 : Int32) = nI 99 := rfl
theorem L100 : (100 : Int32) = nI 100 := rfl
theorem L122 : (122 : Int32) = nI 122 := rfl
theorem L143 : (143 : Int32) = nI 143 := rfl
theorem L144 : (144 : Int32) = nI 144 := rfl
theorem L255 : (255 : Int32) = nI 255 := rfl
theorem L320 : (320 : Int32) = nI 320 := rfl
theorem L500 : (500 : Int32) = nI 500 := rfl
theorem L720 : (720 : Int32) = nI 720 := rfl
theorem L1000 : (1000 : Int32) = nI 1000 := rfl
theorem L2300 : (2300 : Int32) = nI 2300 := rfl
theorem L2400 : (2400 : Int32) = nI 2400 := rfl
theorem nI_eqI {a b : Nat} (ha : a < 2 ^ 31) (hb : b < 2 ^ 31) : (nI a = nI b) = (a = b) := propext (nI_eq ha hb)
-- calls that read one cell
theorem ok_fault : OK2 Rel (fun h => f_X7_fault 0 h) (fun h => f_X8_fault 0 h) := by
  intro hx hm hR
  refine ⟨hx 0 9, hx, hset hm 0 0 0, rfl, ?_, rel_thrown hR⟩
  show some ((hset hm 0 0 0) 0 12, hset hm 0 0 0) = _
  rw [hs_place _ _ _ _ _ (by decide), hR.1.2]
theorem ok_status : OK2 Rel (fun h => f_X7_status 0 h) (fun h => f_X8_status 0 h) := by
  intro hx hm hR
  refine ⟨hx 0 10, hx, hset hm 0 0 0, rfl, ?_, rel_thrown hR⟩
  show some ((hset hm 0 0 0) 0 1, hset hm 0 0 0) = _
  rw [hs_place _ _ _ _ _ (by decide), hR.1.1]
-- rows
theorem hput_id (h : AH) (r : Nat) : hput h r (h r) = h := by
  funext a
  by_cases e : a = r
  · subst e; rw [hput_self]
  · rw [hput_ne _ _ e]
theorem hput_hset (h : AH) (r k : Nat) (v : Int32) (f : Nat → Int32) : hput (hset h r k v) r f = hput h r f := by
  funext a
  by_cases e : a = r
  · subst e; rw [hput_self, hput_self]
  · rw [hput_ne _ _ e, hput_ne _ _ e, hs_cell _ _ _ _ _ e]
/-- a stretch of zeros -/
def zs0 (f : Nat → Int32) (a b : Nat) : Nat → Int32 := fun j => if a ≤ j ∧ j < b then 0 else f j
theorem zs0_e (f : Nat → Int32) {a b : Nat} (h : b ≤ a) : zs0 f a b = f := by
  funext j
  unfold zs0
  rw [if_neg (by omega)]
theorem zs0_s (f : Nat → Int32) {a b : Nat} (h : a < b) : zs0 (upd f a 0) (a + 1) b = zs0 f a b := by
  funext j
  unfold zs0 upd
  by_cases e : j = a
  · subst e
    rw [if_neg (by omega), if_pos rfl, if_pos (by omega)]
  · rw [if_neg e]
    by_cases c : a + 1 ≤ j ∧ j < b
    · rw [if_pos c, if_pos (by omega)]
    · rw [if_neg c, if_neg (by omega)]
theorem m_row_loop (r : Nat) (hr : r < 8) (v : Int32) : ∀ (k fuel i : Nat) (h : AH), i + k = 40 → k < fuel → f_X8_row_65 0 fuel (nI r) v (nI i) h = some (v, hput h 3 (zs0 (h 3) (40 * r + i) (40 * r + 40))) := by
  intro k
  induction k with
  | zero =>
    intro fuel i h hik hf
    obtain ⟨f, rfl⟩ : ∃ f, fuel = f + 1 := ⟨fuel - 1, by omega⟩
    unfold f_X8_row_65
    simp (disch := omega) only [lt_s2, bd_s, bh_s, gz_0, gz_1, L0, L1, L2, L3, L4, L5, L6, L7, L8, L9, L10, L11, L12, L13, L14, L15, L16, L17, L18, L19, L20, L21, L22, L23, L24, L30, L31, L32, L36, L39, L40, L48, L57, L58, L59, L71, L72, L97, L99, L100, L122, L143, L144, L255, L320, L500, L720, L1000, L2300, L2400, nI_add, pk_mul, nI_leI, nI_ltI, nI_eqI, ck_nI, cl_nI, Nat.zero_add, Nat.add_zero, Nat.reduceAdd, Nat.reduceMul, if_pos, if_neg, if_true, if_false]
    rw [zs0_e _ (by omega), hput_id]
  | succ k ih =>
    intro fuel i h hik hf
    obtain ⟨f, rfl⟩ : ∃ f, fuel = f + 1 := ⟨fuel - 1, by omega⟩
    unfold f_X8_row_65
    simp (disch := omega) only [lt_s2, bd_s, bh_s, gz_0, gz_1, L0, L1, L2, L3, L4, L5, L6, L7, L8, L9, L10, L11, L12, L13, L14, L15, L16, L17, L18, L19, L20, L21, L22, L23, L24, L30, L31, L32, L36, L39, L40, L48, L57, L58, L59, L71, L72, L97, L99, L100, L122, L143, L144, L255, L320, L500, L720, L1000, L2300, L2400, nI_add, pk_mul, nI_leI, nI_ltI, nI_eqI, ck_nI, cl_nI, Nat.zero_add, Nat.add_zero, Nat.reduceAdd, Nat.reduceMul, if_pos, if_neg, if_true, if_false]
    rw [← L0, ih f (i + 1) _ (by omega) (by omega), hput_hset, hs_row, ← zs0_s (h 3) (show 40 * r + i < 40 * r + 40 by omega)]
    rfl
theorem x_row_loop (r n : Nat) (hr : r < 8) (hn : n ≤ 40) : ∀ (k fuel i : Nat) (h : AH), i + k = n → k < fuel → f_X5_begin_17 1 fuel (nI r) (nI n) (nI i) h = some ((), hput h 4 (zs0 (h 4) (40 * r + i) (40 * r + n))) := by
  intro k
  induction k with
  | zero =>
    intro fuel i h hik hf
    obtain ⟨f, rfl⟩ : ∃ f, fuel = f + 1 := ⟨fuel - 1, by omega⟩
    unfold f_X5_begin_17
    simp (disch := omega) only [lt_s2, bd_s, bh_s, gz_0, gz_1, L0, L1, L2, L3, L4, L5, L6, L7, L8, L9, L10, L11, L12, L13, L14, L15, L16, L17, L18, L19, L20, L21, L22, L23, L24, L30, L31, L32, L36, L39, L40, L48, L57, L58, L59, L71, L72, L97, L99, L100, L122, L143, L144, L255, L320, L500, L720, L1000, L2300, L2400, nI_add, pk_mul, nI_leI, nI_ltI, nI_eqI, ck_nI, cl_nI, Nat.zero_add, Nat.add_zero, Nat.reduceAdd, Nat.reduceMul, if_pos, if_neg, if_true, if_false]
    rw [zs0_e _ (by omega), hput_id]
  | succ k ih =>
    intro fuel i h hik hf
    obtain ⟨f, rfl⟩ : ∃ f, fuel = f + 1 := ⟨fuel - 1, by omega⟩
    unfold f_X5_begin_17
    simp (disch := omega) only [lt_s2, bd_s, bh_s, gz_0, gz_1, L0, L1, L2, L3, L4, L5, L6, L7, L8, L9, L10, L11, L12, L13, L14, L15, L16, L17, L18, L19, L20, L21, L22, L23, L24, L30, L31, L32, L36, L39, L40, L48, L57, L58, L59, L71, L72, L97, L99, L100, L122, L143, L144, L255, L320, L500, L720, L1000, L2300, L2400, nI_add, pk_mul, nI_leI, nI_ltI, nI_eqI, ck_nI, cl_nI, Nat.zero_add, Nat.add_zero, Nat.reduceAdd, Nat.reduceMul, if_pos, if_neg, if_true, if_false]
    rw [← L0, ih f (i + 1) _ (by omega) (by omega), hput_hset, hs_row, Nat.mul_comm r 40, ← zs0_s (h 4) (show 40 * r + i < 40 * r + n by omega)]
    rfl

