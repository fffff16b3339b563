/-! ===== hours with room, the laying out ===== -/
theorem z_shl : ∀ j, j < 12 → (0 : Int32) <<< (nI j &&& 31) = 0 := by decide +kernel
theorem x_wb0 (x : Int32) {j : Nat} (hj : j < 12) (h : AH) : ∃ y, f_X7_withBit x (nI j) 0 h = some (y, h) ∧ ∀ i, i < 32 → bt y i = (bt x i && !decide (i = j)) := by
  refine ⟨_, rfl, fun i hi => ?_⟩
  rw [bt_or, bt_and, bt_not _ hi, bt_one j hj i hi, z_shl j hj, bt_0, Bool.or_false]
theorem x_wb1 (x : Int32) {j : Nat} (hj : j < 12) (h : AH) : ∃ y, f_X7_withBit x (nI j) 1 h = some (y, h) ∧ ∀ i, i < 32 → bt y i = (bt x i || decide (i = j)) := by
  refine ⟨_, rfl, fun i hi => ?_⟩
  rw [bt_or, bt_and, bt_not _ hi, bt_one j hj i hi]
  cases bt x i <;> cases decide (i = j) <;> rfl
def q_rm (σ : Sg) (b a t : Nat) : Nat := rmv (σ 7 b) (σ 8 b) (σ 4 a) (σ 1 t)
theorem x_roomy6 {h : AH} {σ : Sg} (hC : CQ h 17 σ) (w : WFs σ) {b a lo hi : Nat} (hb : b < σ 0 1) (ha : a < σ 0 0) (hh : hi ≤ 11) : ∀ (r fuel k : Nat) (X : Int32), k + r = hi + 1 → r < fuel → (∀ t, t < 32 → (bt X t = true ↔ lo ≤ t ∧ t < k ∧ q_rm σ b a t = 1)) → lo ≤ k → ∃ Y, f_X3_roomyHours_6 17 fuel (nI b) (nI a) (nI hi) X (nI k) h = some (Y, h) ∧ ∀ t, t < 32 → (bt Y t = true ↔ lo ≤ t ∧ t ≤ hi ∧ q_rm σ b a t = 1) := by
  intro r
  induction r with
  | zero =>
    intro fuel k X hk hf hX hl
    obtain ⟨m, rfl⟩ : ∃ m, fuel = m + 1 := ⟨fuel - 1, by omega⟩
    rw [f_X3_roomyHours_6, if_pos (nI_lt (by omega) (by omega))]
    refine ⟨X, rfl, fun t ht => ?_⟩
    rw [hX t ht]
    constructor
    · rintro ⟨a1, a2, a3⟩; exact ⟨a1, by omega, a3⟩
    · rintro ⟨a1, a2, a3⟩; exact ⟨a1, by omega, a3⟩
  | succ r ih =>
    intro fuel k X hk hf hX hl
    obtain ⟨m, rfl⟩ : ∃ m, fuel = m + 1 := ⟨fuel - 1, by omega⟩
    have ht20 := w.2.2.2.2.2.1 k (by omega)
    have e18 : h (17 + 1) k = nI (σ 1 k) := hC.2.2.2.2.2.2.2.1 k (by omega)
    rw [f_X3_roomyHours_6, if_neg (nI_nlt (by omega) (by omega)), ck_nI _ (show k < 12 by omega) (by decide), cl_nI (by omega), e18, x_hasRoom hC w hb ha (by omega), bd_s]
    rcases rmv_01 (σ 7 b) (σ 8 b) (σ 4 a) (σ 1 k) with q | q
    · rw [q, if_n0]
      obtain ⟨y, y1, y2⟩ := x_wb0 X (j := k) (by omega) h
      rw [y1, bd_s, lt_s2, nI_1]
      refine ih m (k + 1) y (by omega) (by omega) (fun t ht => ?_) (by omega)
      rw [y2 t ht]
      by_cases c : t = k
      · rw [decide_eq_true c, Bool.not_true, Bool.and_false]
        refine ⟨fun z => absurd z (by decide), fun z => ?_⟩
        have := z.2.2
        unfold q_rm at this
        rw [c, q] at this
        exact absurd this (by decide)
      · rw [decide_eq_false c, Bool.not_false, Bool.and_true, hX t ht]
        exact ⟨fun z => ⟨z.1, by omega, z.2.2⟩, fun z => ⟨z.1, by omega, z.2.2⟩⟩
    · rw [q, if_n1]
      obtain ⟨y, y1, y2⟩ := x_wb1 X (j := k) (by omega) h
      rw [y1, bd_s, lt_s2, nI_1]
      refine ih m (k + 1) y (by omega) (by omega) (fun t ht => ?_) (by omega)
      rw [y2 t ht]
      by_cases c : t = k
      · rw [decide_eq_true c, Bool.or_true]
        exact ⟨fun _ => ⟨by omega, by omega, by unfold q_rm; rw [c]; exact q⟩, fun _ => rfl⟩
      · rw [decide_eq_false c, Bool.or_false, hX t ht]
        exact ⟨fun z => ⟨z.1, by omega, z.2.2⟩, fun z => ⟨z.1, by omega, z.2.2⟩⟩
theorem x_roomy {h : AH} {σ : Sg} (hC : CQ h 17 σ) (w : WFs σ) {b a lo hi : Nat} (hb : b < σ 0 1) (ha : a < σ 0 0) (hl : lo ≤ hi) (hh : hi ≤ 11) : ∃ Y, f_X3_roomyHours 17 (nI b) (nI a) (nI lo) (nI hi) h = some (Y, h) ∧ ∀ t, t < 32 → (bt Y t = true ↔ lo ≤ t ∧ t ≤ hi ∧ q_rm σ b a t = 1) := by
  unfold f_X3_roomyHours
  refine x_roomy6 hC w hb ha hh (hi + 1 - lo) fu lo 0 (by omega) (fu_ge _ (by omega)) (fun t ht => ?_) (Nat.le_refl _)
  rw [bt_0]
  exact ⟨fun z => absurd z (by decide), fun z => by omega⟩
def q_rb (σ : Sg) (d lo hi b a : Nat) (x : Int32) : Prop := ∀ t, t < 32 → (bt x t = true ↔ (lo ≤ t ∧ t ≤ hi) ∧ σ 10 b = 0 ∧ sd σ b = d ∧ σ 6 a = 0 ∧ q_rm σ b a t = 1)
theorem q_CQ_c {h h2 : AH} {σ : Sg} (hC : CQ h 17 σ) (e : ∀ c, 17 ≤ c → c ≤ 25 → h2 c = h c) : CQ h2 17 σ := by
  unfold CQ
  rw [e 17 (by decide) (by decide), e (17 + 1) (by decide) (by decide), e (17 + 2) (by decide) (by decide), e (17 + 3) (by decide) (by decide), e (17 + 4) (by decide) (by decide), e (17 + 5) (by decide) (by decide), e (17 + 6) (by decide) (by decide), e (17 + 7) (by decide) (by decide), e (17 + 8) (by decide) (by decide)]
  exact hC
theorem x_prep110 {σ : Sg} (w : WFs σ) {d b lo hi o : Nat} (hb : b < σ 0 1) (hl : lo ≤ hi) (hh : hi ≤ 11) (ho : o = 0 ∧ σ 10 b = 0 ∧ sd σ b = d ∨ o = 1 ∧ ¬ (σ 10 b = 0 ∧ sd σ b = d)) (K : Int32 → Int32 → Int32 → Int32 → AH → Option (Unit × AH)) : ∀ (r fuel a : Nat) (h : AH), a + r = σ 0 0 → r < fuel → CQ h 17 σ → h 49 8 = nI (σ 0 0) → (∀ a', a' < a → q_rb σ d lo hi b a' (h 50 (6 * b + a'))) → ∃ h', f_X3_prepare_110 49 17 K fuel (nI d) (nI lo) (nI hi) (nI b) (nI o) (nI a) h = K (nI d) (nI lo) (nI hi) (nI (b + 1)) h' ∧ (∀ c, c ≠ 50 → h' c = h c) ∧ (∀ i, i < 6 * b → h' 50 i = h 50 i) ∧ ∀ a', a' < σ 0 0 → q_rb σ d lo hi b a' (h' 50 (6 * b + a')) := by
  have w0 := w.1
  have w1 := w.2.1
  intro r
  induction r with
  | zero =>
    intro fuel a h ha hf hC h8 hi'
    obtain ⟨m, rfl⟩ : ∃ m, fuel = m + 1 := ⟨fuel - 1, by omega⟩
    rw [f_X3_prepare_110, h8, if_pos (nI_le (by omega) (by omega)), lt_s2, nI_1]
    exact ⟨h, rfl, fun _ _ => rfl, fun _ _ => rfl, fun a' h' => hi' a' (by omega)⟩
  | succ r ih =>
    intro fuel a h ha hf hC h8 hi'
    obtain ⟨m, rfl⟩ : ∃ m, fuel = m + 1 := ⟨fuel - 1, by omega⟩
    have han : a < σ 0 0 := by omega
    -- one word is written, and on
    have go : ∀ x, q_rb σ d lo hi b a x → ∃ h', f_X3_prepare_110 49 17 K m (nI d) (nI lo) (nI hi) (nI b) (nI o) (nI (a + 1)) (hset h (49 + 1) (b * 6 + a) x) = K (nI d) (nI lo) (nI hi) (nI (b + 1)) h' ∧ (∀ c, c ≠ 50 → h' c = h c) ∧ (∀ i, i < 6 * b → h' 50 i = h 50 i) ∧ ∀ a', a' < σ 0 0 → q_rb σ d lo hi b a' (h' 50 (6 * b + a')) := by
      intro x hx
      obtain ⟨h', r1, r2, r3, r4⟩ := ih m (a + 1) (hset h (49 + 1) (b * 6 + a) x) (by omega) (by omega) (q_CQ_c hC (fun c c1 c2 => hs_cell _ _ _ _ _ (by omega))) (by rw [hs_cell _ _ _ _ _ (by decide)]; exact h8) (fun a' h' => by
        rw [show hset h (49 + 1) (b * 6 + a) x 50 = upd (h 50) (b * 6 + a) x from hs_row _ _ _ _, upd_lit]
        by_cases c : a' = a
        · rw [if_pos (by omega), c]; exact hx
        · rw [if_neg (by omega)]; exact hi' a' (by omega))
      refine ⟨h', r1, fun c hc => by rw [r2 c hc, hs_cell _ _ _ _ _ hc], fun i hi2 => ?_, r4⟩
      rw [r3 i hi2, show hset h (49 + 1) (b * 6 + a) x 50 = upd (h 50) (b * 6 + a) x from hs_row _ _ _ _, upd_lit, if_neg (by omega)]
    have e6 : nI b * 6 + nI a = nI (b * 6 + a) := by rw [L6, pk_mul, nI_add]
    have shut1 : ∃ h', f_X3_prepare_133 49 17 K (f_X3_prepare_110 49 17 K m) (nI d) (nI lo) (nI hi) (nI b) (nI o) (nI a) h = f_X3_prepare_110 49 17 K m (nI d) (nI lo) (nI hi) (nI b) (nI o) (nI (a + 1)) h' ∧ h' = hset h (49 + 1) (b * 6 + a) 0 := by
      unfold f_X3_prepare_133 f_X3_prepare_138
      rw [if_neg n10, lt_s2, e6, ck_nI _ (by omega) (by decide), cl_nI (by omega), lt_s2, lt_s2, nI_1]
      exact ⟨_, rfl, rfl⟩
    obtain ⟨_, s1, rfl⟩ := shut1
    rw [f_X3_prepare_110, h8, if_neg (nI_ge (by omega) (by omega))]
    have g6 := (wf_a w han).2.2.2.2.2
    rcases ho with ⟨o1, o2⟩ | ⟨o1, o2⟩
    · rw [show (if nI o = 0 then (bd (f_X2_isShut 17 (nI a) h) (fun v_3 h_2 => if v_3 = 0 then (f_X3_prepare_138 49 17 K (f_X3_prepare_110 49 17 K m) (nI d) (nI lo) (nI hi) (nI b) (nI o) (nI a) 0 h_2) else (f_X3_prepare_133 49 17 K (f_X3_prepare_110 49 17 K m) (nI d) (nI lo) (nI hi) (nI b) (nI o) (nI a) h_2))) else (f_X3_prepare_133 49 17 K (f_X3_prepare_110 49 17 K m) (nI d) (nI lo) (nI hi) (nI b) (nI o) (nI a) h)) = bd (f_X2_isShut 17 (nI a) h) (fun v_3 h_2 => if v_3 = 0 then (f_X3_prepare_138 49 17 K (f_X3_prepare_110 49 17 K m) (nI d) (nI lo) (nI hi) (nI b) (nI o) (nI a) 0 h_2) else (f_X3_prepare_133 49 17 K (f_X3_prepare_110 49 17 K m) (nI d) (nI lo) (nI hi) (nI b) (nI o) (nI a) h_2)) from if_pos (by rw [o1]; rfl), x_isShut hC w han, bd_s]
      rcases (show σ 6 a = 0 ∨ σ 6 a = 1 by omega) with g | g
      · rw [g, if_n0]
        obtain ⟨Y, y1, y2⟩ := x_roomy hC w hb han hl hh
        unfold f_X3_prepare_138
        rw [if_pos rfl, y1, bd_s, lt_s2, e6, ck_nI _ (by omega) (by decide), cl_nI (by omega), lt_s2, lt_s2, nI_1]
        refine go Y (fun t ht => ?_)
        rw [y2 t ht]
        exact ⟨fun z => ⟨⟨z.1, z.2.1⟩, o2.1, o2.2, g, z.2.2⟩, fun z => ⟨z.1.1, z.1.2, z.2.2.2.2⟩⟩
      · rw [g, if_n1, s1]
        refine go 0 (fun t ht => ?_)
        rw [bt_0]
        exact ⟨fun z => absurd z (by decide), fun z => by have := z.2.2.2.1; omega⟩
    · rw [if_neg (by rw [o1]; exact n10), s1]
      refine go 0 (fun t ht => ?_)
      rw [bt_0]
      exact ⟨fun z => absurd z (by decide), fun z => absurd ⟨z.2.1, z.2.2.1⟩ o2⟩
theorem x_prep59 {σ : Sg} (w : WFs σ) {d lo hi : Nat} (hd : d < 2) (hl : lo ≤ hi) (hh : hi ≤ 11) : ∀ (r fuel b : Nat) (h : AH), b + r = σ 0 1 → r < fuel → CQ h 17 σ → h 49 8 = nI (σ 0 0) → h 49 9 = nI (σ 0 1) → (∀ b', b' < b → h 51 b' = nI (cfb (tr σ b')) ∧ ∀ a, a < σ 0 0 → q_rb σ d lo hi b' a (h 50 (6 * b' + a))) → ∃ h', f_X3_prepare_59 49 17 fuel (nI d) (nI lo) (nI hi) (nI b) h = some ((), h') ∧ (∀ c, c ≠ 50 → c ≠ 51 → h' c = h c) ∧ ∀ b', b' < σ 0 1 → h' 51 b' = nI (cfb (tr σ b')) ∧ ∀ a, a < σ 0 0 → q_rb σ d lo hi b' a (h' 50 (6 * b' + a)) := by
  have w0 := w.1
  have w1 := w.2.1
  intro r
  induction r with
  | zero =>
    intro fuel b h hb hf hC h8 h9 hi'
    obtain ⟨m, rfl⟩ : ∃ m, fuel = m + 1 := ⟨fuel - 1, by omega⟩
    rw [f_X3_prepare_59, h9, if_pos (nI_le (by omega) (by omega))]
    exact ⟨h, rfl, fun _ _ _ => rfl, fun b' h' => hi' b' (by omega)⟩
  | succ r ih =>
    intro fuel b h hb hf hC h8 h9 hi'
    obtain ⟨m, rfl⟩ : ∃ m, fuel = m + 1 := ⟨fuel - 1, by omega⟩
    have hbN : b < σ 0 1 := by omega
    have hsd := sd_lt σ b
    rw [f_X3_prepare_59, h9, if_neg (nI_ge (by omega) (by omega)), x_chartersFor hC w hbN, bd_s, ck_nI _ (by omega) (by decide), cl_nI (by omega), lt_s2]
    have k51 : hset h (49 + 2) b (nI (cfb (tr σ b))) 51 = upd (h 51) b (nI (cfb (tr σ b))) := hs_row _ _ _ _
    have ko : ∀ c, c ≠ 51 → hset h (49 + 2) b (nI (cfb (tr σ b))) c = h c := fun c hc => hs_cell _ _ _ _ _ hc
    generalize hset h (49 + 2) b (nI (cfb (tr σ b))) = g at k51 ko ⊢
    have hCg : CQ g 17 σ := q_CQ_c hC (fun c c1 c2 => ko c (by omega))
    have fin : ∀ o, (o = 0 ∧ σ 10 b = 0 ∧ sd σ b = d ∨ o = 1 ∧ ¬ (σ 10 b = 0 ∧ sd σ b = d)) → ∃ h', f_X3_prepare_110 49 17 (f_X3_prepare_59 49 17 m) fu (nI d) (nI lo) (nI hi) (nI b) (nI o) 0 g = some ((), h') ∧ (∀ c, c ≠ 50 → c ≠ 51 → h' c = h c) ∧ ∀ b', b' < σ 0 1 → h' 51 b' = nI (cfb (tr σ b')) ∧ ∀ a, a < σ 0 0 → q_rb σ d lo hi b' a (h' 50 (6 * b' + a)) := by
      intro o ho
      obtain ⟨h1, r1, r2, r3, r4⟩ := x_prep110 w hbN hl hh ho (f_X3_prepare_59 49 17 m) (σ 0 0) fu 0 g (by omega) (fu_ge _ (by omega)) hCg (by rw [ko 49 (by decide)]; exact h8) (fun a' h' => absurd h' (Nat.not_lt_zero a'))
      obtain ⟨h2, s1, s2, s3⟩ := ih m (b + 1) h1 (by omega) (by omega) (q_CQ_c hCg (fun c c1 c2 => r2 c (by omega))) (by rw [r2 49 (by decide), ko 49 (by decide)]; exact h8) (by rw [r2 49 (by decide), ko 49 (by decide)]; exact h9) (fun b' hb' => by
        by_cases c : b' = b
        · refine ⟨?_, fun a ha => by rw [c]; exact r4 a ha⟩
          rw [r2 51 (by decide), k51, upd_lit, if_pos c, c]
        · refine ⟨?_, fun a ha => ?_⟩
          · rw [r2 51 (by decide), k51, upd_lit, if_neg c]; exact (hi' b' (by omega)).1
          · rw [r3 _ (by omega), ko 50 (by decide)]; exact (hi' b' (by omega)).2 a ha)
      refine ⟨h2, ?_, fun c c1 c2 => by rw [s2 c c1 c2, r2 c c1, ko c c2], s3⟩
      rw [show (0 : Int32) = nI 0 from rfl, r1]
      exact s1
    rw [x_isGone hCg w hbN, bd_s]
    have g10 := (wf_b w hbN).2.2.2.2
    rcases (show σ 10 b = 0 ∨ σ 10 b = 1 by omega) with q | q
    · rw [q, if_n0, x_sideOf hCg w hbN, bd_s]
      by_cases c : sd σ b = d
      · rw [if_pos (congrArg nI c)]
        exact fin 0 (Or.inl ⟨rfl, q, c⟩)
      · rw [if_neg (fun z => c ((nI_eq (by omega) (by omega)).mp z))]
        exact fin 1 (Or.inr ⟨rfl, fun z => c z.2⟩)
    · rw [q, if_n1]
      exact fin 1 (Or.inr ⟨rfl, fun z => by omega⟩)
theorem x_prep19 {σ : Sg} (w : WFs σ) {d lo hi : Nat} (hd : d < 2) : ∀ (r fuel a : Nat) (h : AH), a + r = σ 0 0 → r < fuel → CQ h 17 σ → h 49 8 = nI (σ 0 0) → (∀ a', a' < a → h 52 a' = nI (σ (2 + d) a') ∧ h 54 a' = 0) → ∃ h', f_X3_prepare_19 49 17 fuel (nI d) (nI lo) (nI hi) (nI a) h = f_X3_prepare_59 49 17 fu (nI d) (nI lo) (nI hi) 0 h' ∧ (∀ c, c ≠ 52 → c ≠ 54 → h' c = h c) ∧ ∀ a', a' < σ 0 0 → h' 52 a' = nI (σ (2 + d) a') ∧ h' 54 a' = 0 := by
  have w0 := w.1
  intro r
  induction r with
  | zero =>
    intro fuel a h ha hf hC h8 hi'
    obtain ⟨m, rfl⟩ : ∃ m, fuel = m + 1 := ⟨fuel - 1, by omega⟩
    rw [f_X3_prepare_19, h8, if_pos (nI_le (by omega) (by omega))]
    exact ⟨h, rfl, fun _ _ _ => rfl, fun a' h' => hi' a' (by omega)⟩
  | succ r ih =>
    intro fuel a h ha hf hC h8 hi'
    obtain ⟨m, rfl⟩ : ∃ m, fuel = m + 1 := ⟨fuel - 1, by omega⟩
    have han : a < σ 0 0 := by omega
    have ec := hC.2.2.2.2.2.2.2.2.1 a han
    have e19 : h (17 + 2) (6 * d + a) = nI (σ (2 + d) a) := by
      rcases (show d = 0 ∨ d = 1 by omega) with rfl | rfl
      · rw [show 6 * 0 + a = a by omega]; exact ec.1
      · exact ec.2.1
    rw [f_X3_prepare_19, h8, if_neg (nI_ge (by omega) (by omega)), x_charterOf _ hd (by omega), bd_s, ck_nI _ (show a < 6 by omega) (by decide), cl_nI (by omega), lt_s2, ck_nI _ (show a < 6 by omega) (by decide), lt_s2, lt_s2, nI_1, e19]
    have k52 : hset (hset h (49 + 3) a (nI (σ (2 + d) a))) (49 + 5) a 0 52 = upd (h 52) a (nI (σ (2 + d) a)) := by rw [hs_cell _ _ _ _ _ (by decide)]; exact hs_row _ _ _ _
    have k54 : hset (hset h (49 + 3) a (nI (σ (2 + d) a))) (49 + 5) a 0 54 = upd (h 54) a 0 := by rw [show (54 : Nat) = 49 + 5 from rfl, hs_row, hs_cell _ _ _ _ _ (by decide)]
    have ko : ∀ c, c ≠ 52 → c ≠ 54 → hset (hset h (49 + 3) a (nI (σ (2 + d) a))) (49 + 5) a 0 c = h c := fun c n1 n2 => by rw [hs_cell _ _ _ _ _ n2, hs_cell _ _ _ _ _ n1]
    generalize hset (hset h (49 + 3) a (nI (σ (2 + d) a))) (49 + 5) a 0 = g at k52 k54 ko ⊢
    obtain ⟨h', r1, r2, r3⟩ := ih m (a + 1) g (by omega) (by omega) (q_CQ_c hC (fun c c1 c2 => ko c (by omega) (by omega))) (by rw [ko 49 (by decide) (by decide)]; exact h8) (fun a' ha' => by
      rw [k52, k54, upd_lit, upd_lit]
      by_cases c : a' = a
      · rw [if_pos c, if_pos c, c]; exact ⟨rfl, rfl⟩
      · rw [if_neg c, if_neg c]; exact hi' a' (by omega))
    exact ⟨h', r1, fun c n1 n2 => by rw [r2 c n1 n2, ko c n1 n2], r3⟩
def q_CS (h : AH) (σ : Sg) (d lo hi : Nat) (ch : Nat → Nat) (T : Nat → Bool) : Prop :=
  (h 49 8 = nI (σ 0 0) ∧ h 49 9 = nI (σ 0 1)) ∧ (∀ b, b < σ 0 1 → h 51 b = nI (cfb (tr σ b)) ∧ ∀ a, a < σ 0 0 → q_rb σ d lo hi b a (h 50 (6 * b + a))) ∧ (∀ a, a < σ 0 0 → (if d = 0 then ch a else σ 3 a) ≤ 4 ∧ h 52 a = nI (if d = 0 then ch a else σ 3 a)) ∧ ∀ a, a < σ 0 0 → ∀ t, t < 12 → (bt (h 54 a) t = true ↔ T (72 * d + 6 * t + a) = true)
theorem q_CS_c {h h2 : AH} {σ : Sg} {d lo hi : Nat} {ch : Nat → Nat} {T : Nat → Bool} (hS : q_CS h σ d lo hi ch T) (e : q_Fx h h2) : q_CS h2 σ d lo hi ch T := by
  unfold q_CS
  rw [e.2 8 (by decide), e.2 9 (by decide), e.1 50 (by decide) (by decide) (by decide) (by decide), e.1 51 (by decide) (by decide) (by decide) (by decide), e.1 52 (by decide) (by decide) (by decide) (by decide), e.1 54 (by decide) (by decide) (by decide) (by decide)]
  exact hS
theorem x_prepare {h : AH} {σ : Sg} {d lo hi : Nat} {ch : Nat → Nat} (hC : CQ h 17 σ) (w : WFs σ) (hd : d < 2) (hl : lo ≤ hi) (hh : hi ≤ 11) (hch : d = 0 → ∀ a, a < σ 0 0 → ch a = σ 2 a) : ∃ h', f_X3_prepare 49 17 (nI d) (nI lo) (nI hi) h = some ((), h') ∧ (∀ c, c ≠ 49 → c ≠ 50 → c ≠ 51 → c ≠ 52 → c ≠ 54 → h' c = h c) ∧ q_CS h' σ d lo hi ch (fun _ => false) := by
  unfold f_X3_prepare
  have w0 := w.1
  have w1 := w.2.1
  rw [lt_s2, lt_s2, show (0 : Int32) = nI 0 from rfl, show h 17 1 = nI (σ 0 0) from hC.2.1, hs_cell _ _ _ _ 17 (by decide), show h 17 2 = nI (σ 0 1) from hC.2.2.1]
  have k8 : hset (hset h 49 8 (nI (σ 0 0))) 49 9 (nI (σ 0 1)) 49 8 = nI (σ 0 0) := by rw [hs_place _ _ _ _ _ (by decide), hs_self]
  have k9 : hset (hset h 49 8 (nI (σ 0 0))) 49 9 (nI (σ 0 1)) 49 9 = nI (σ 0 1) := hs_self _ _ _ _
  have ko : ∀ c, c ≠ 49 → hset (hset h 49 8 (nI (σ 0 0))) 49 9 (nI (σ 0 1)) c = h c := fun c n1 => by rw [hs_cell _ _ _ _ _ n1, hs_cell _ _ _ _ _ n1]
  generalize hset (hset h 49 8 (nI (σ 0 0))) 49 9 (nI (σ 0 1)) = g at k8 k9 ko ⊢
  obtain ⟨h1, r1, r2, r3⟩ := x_prep19 w hd (lo := lo) (hi := hi) (σ 0 0) fu 0 g (by omega) (fu_ge _ (by omega)) (q_CQ_c hC (fun c c1 c2 => ko c (by omega))) k8 (fun a' ha' => absurd ha' (Nat.not_lt_zero a'))
  obtain ⟨h2, s1, s2, s3⟩ := x_prep59 w hd hl hh (σ 0 1) fu 0 h1 (by omega) (fu_ge _ (by omega)) (q_CQ_c hC (fun c c1 c2 => by rw [r2 c (by omega) (by omega), ko c (by omega)])) (by rw [r2 49 (by decide) (by decide)]; exact k8) (by rw [r2 49 (by decide) (by decide)]; exact k9) (fun b' hb' => absurd hb' (Nat.not_lt_zero b'))
  refine ⟨h2, ?_, fun c n1 n2 n3 n4 n5 => by rw [s2 c n2 n3, r2 c n4 n5, ko c n1], ⟨?_, ?_⟩, s3, fun a ha => ?_, fun a ha t ht => ?_⟩
  · rw [r1]; exact s1
  · rw [s2 49 (by decide) (by decide), r2 49 (by decide) (by decide)]; exact k8
  · rw [s2 49 (by decide) (by decide), r2 49 (by decide) (by decide)]; exact k9
  · have ec : (if d = 0 then ch a else σ 3 a) = σ (2 + d) a := by
      rcases (show d = 0 ∨ d = 1 by omega) with rfl | rfl
      · rw [if_pos rfl]; exact hch rfl a ha
      · rw [if_neg (by decide)]
    rw [ec, s2 52 (by decide) (by decide)]
    refine ⟨?_, (r3 a ha).1⟩
    have wa := wf_a w ha
    rcases (show d = 0 ∨ d = 1 by omega) with rfl | rfl
    · exact wa.1
    · exact wa.2.1
  · rw [s2 54 (by decide) (by decide), (r3 a ha).2, bt_0]
def q_Ed (σ : Sg) (lo hi : Nat) (ch : Nat → Nat) (d b p : Nat) : Prop := sd σ b = d ∧ q_Eg σ lo hi ch b p
theorem x_oracle {h : AH} {σ : Sg} {d lo hi : Nat} {ch : Nat → Nat} {T : Nat → Bool} (hS : q_CS h σ d lo hi ch T) (w : WFs σ) (hd : d < 2) (hh : hi ≤ 11) : q_Ox h d (σ 0 0) (σ 0 1) (q_Ed σ lo hi ch d) T := by
  have w0 := w.1
  have w1 := w.2.1
  refine ⟨fun g hF b a hb ha => ?_, ⟨w0, w1⟩, hS.1, fun b p hE => ?_, hS.2.2.2⟩
  · unfold f_X3_openHours
    rw [ck_nI _ hb (by decide), ck_nI _ ha (by decide), cl_nI (by omega), cl_nI (by omega), show f_X7_bitOf (g (49 + 2) b) (g (49 + 3) a) g = some (((g 51 b >>> (g 52 a &&& 31)) &&& 1), g) from rfl, bd_s, L6, pk_mul, nI_add, lt_s2, ck_nI _ (by omega) (by decide), cl_nI (by omega), show g (49 + 1) (b * 6 + a) = g 50 (b * 6 + a) from rfl]
    refine ⟨if ((g 51 b >>> (g 52 a &&& 31)) &&& 1) = 1 then g 50 (b * 6 + a) else 0, by split <;> rfl, fun hbN han t ht => ?_⟩
    have hS2 := q_CS_c hS hF
    obtain ⟨-, s2, s3, -⟩ := hS2
    obtain ⟨b1, b2⟩ := s2 b hbN
    obtain ⟨a1, a2⟩ := s3 a han
    rw [b1, a2, cf_bit (tr σ b) (tr_lt σ b) _ (by omega), show b * 6 + a = 6 * b + a by omega]
    have key : t < 12 → (sd σ b = d ∧ q_Eg σ lo hi ch b (72 * d + 6 * t + a) ↔ sd σ b = d ∧ σ 10 b = 0 ∧ (lo ≤ t ∧ t ≤ hi) ∧ ltb σ b a t (if d = 0 then ch a else σ 3 a) = 1) := fun h12 => by
      unfold q_Eg
      rw [show (72 * d + 6 * t + a) / 72 = d by omega, show (72 * d + 6 * t + a) % 72 / 6 = t by omega, show (72 * d + 6 * t + a) % 6 = a by omega]
      exact ⟨fun z => ⟨z.1, z.2.1.2, z.2.2.2.2.1, z.2.2.2.2.2.2⟩, fun z => ⟨z.1, ⟨hbN, z.2.1⟩, by omega, z.1.symm, z.2.2.1, han, z.2.2.2⟩⟩
    have g6 := (wf_a w han).2.2.2.2.2
    rcases lb_01 (if d = 0 then ch a else σ 3 a) (tr σ b) with q | q
    · rw [q, if_neg (show ¬ nI 0 = 1 by decide), bt_0]
      refine ⟨fun z => absurd z (by decide), fun z => ?_⟩
      have := ((key z.1).mp z.2).2.2.2
      unfold ltb at this
      rw [q] at this
      split at this
      · exact absurd this (by decide)
      · rw [if_pos rfl] at this; exact absurd this (by decide)
    · rw [q, if_pos (show nI 1 = 1 from rfl), b2 a han t ht]
      have el : ltb σ b a t (if d = 0 then ch a else σ 3 a) = 1 ↔ σ 6 a = 0 ∧ q_rm σ b a t = 1 := by
        unfold ltb q_rm
        rw [q, if_neg (show ¬ 1 = 0 by decide)]
        by_cases c : σ 6 a = 1
        · rw [if_pos c]
          exact ⟨fun z => absurd z (by decide), fun z => by omega⟩
        · rw [if_neg c]
          exact ⟨fun z => ⟨by omega, z⟩, fun z => z.2⟩
      constructor
      · rintro ⟨z1, z2, z3, z4, z5⟩
        have h12 : t < 12 := by omega
        exact ⟨h12, (key h12).mpr ⟨z3, z2, z1, el.mpr ⟨z4, z5⟩⟩⟩
      · rintro ⟨h12, z⟩
        obtain ⟨z1, z2, z3, z4⟩ := (key h12).mp z
        have := el.mp z4
        exact ⟨z3, z2, z1, this.1, this.2⟩
  · obtain ⟨e1, ⟨e2, e3⟩, e4, e5, e6, e7, e8⟩ := hE
    exact ⟨e2, p % 72 / 6, p % 6, by omega, e7, by omega⟩
theorem x_greatestOf {h : AH} {σ : Sg} {d lo hi : Nat} {ch : Nat → Nat} (hC : CQ h 17 σ) (w : WFs σ) (hd : d < 2) (hl : lo ≤ hi) (hh : hi ≤ 11) (hch : d = 0 → ∀ a, a < σ 0 0 → ch a = σ 2 a) (hQ : RQ (h 56)) : ∃ c h', f_X3_greatestOf 49 17 (nI d) (nI lo) (nI hi) h = some (nI c, h') ∧ (∀ c, (c < 49 ∨ 57 < c) → h' c = h c) ∧ RQ (h' 56) ∧ q_CS h' σ d lo hi ch (fun _ => false) ∧ Gr (q_F (q_Ed σ lo hi ch d) (fun _ => false)) 0 (σ 0 1) c := by
  obtain ⟨h1, r1, r2, r3⟩ := x_prepare hC w hd hl hh hch
  obtain ⟨c, h2, s1, s2, s3, s4⟩ := x_placedFrom (x_oracle r3 w hd hh) (by rw [r2 56 (by decide) (by decide) (by decide) (by decide) (by decide)]; exact hQ) (Nat.zero_le (σ 0 1))
  refine ⟨c, h2, ?_, fun c hc => ?_, s3, q_CS_c r3 s2, s4⟩
  · unfold f_X3_greatestOf
    rw [r1, bd_s, show (0 : Int32) = nI 0 from rfl, s1, bd_s]
  · rw [s2.1 c (by omega) (by omega) (by omega) (by omega), r2 c (by omega) (by omega) (by omega) (by omega) (by omega)]
