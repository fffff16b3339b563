/-! ===== most ===== -/
theorem m_inK (x : Int32) {N : Nat} (hN : N < 1000) (h : AH) : f_X8_in x.toInt64 (-1) (nI N - 1).toInt64 h = some (if x < -1 then 0 else if x < nI N then 1 else 0, h) := by
  unfold f_X8_in
  have t1 : (-1 : Int64).toInt = -1 := by decide
  have t2 : (nI N - 1).toInt = (N : Int) - 1 := pk_sub_toInt (a := N) (b := 1) (by omega) (by decide)
  have t3 : (-1 : Int32).toInt = -1 := by decide
  have e0 : (lg_cmp x.toInt64 (-1) < 0) ↔ x < -1 := by
    rw [lg_lt, Int64.lt_iff_toInt_lt, w_toInt, Int32.lt_iff_toInt_lt, t1, t3]
  have e1 : (0 < lg_cmp x.toInt64 (nI N - 1).toInt64) ↔ ¬ x < nI N := by
    rw [lg_gt, Int64.lt_iff_toInt_lt, w_toInt, w_toInt, t2, Int32.lt_iff_toInt_lt, nI_toInt (by omega)]
    omega
  by_cases q0 : x < -1
  · rw [if_pos (e0.mpr q0), if_pos q0]
  · rw [if_neg (fun z => q0 (e0.mp z)), if_neg q0]
    by_cases q1 : x < nI N
    · rw [if_neg (fun z => (e1.mp z) q1), if_pos q1]
    · rw [if_pos (e1.mpr q1), if_neg q1]
theorem m_inH (x : Int32) {lo : Nat} (hl : lo < 1000) (h : AH) : f_X8_in x.toInt64 (nI lo).toInt64 11 h = some (if x < nI lo then 0 else if nI 12 ≤ x then 0 else 1, h) := by
  unfold f_X8_in
  have t1 : (11 : Int64).toInt = 11 := by decide
  have e0 : (lg_cmp x.toInt64 (nI lo).toInt64 < 0) ↔ x < nI lo := by
    rw [lg_lt, Int64.lt_iff_toInt_lt, w_toInt, w_toInt, Int32.lt_iff_toInt_lt]
  have e1 : (0 < lg_cmp x.toInt64 11) ↔ nI 12 ≤ x := by
    rw [lg_gt, Int64.lt_iff_toInt_lt, w_toInt, t1, Int32.le_iff_toInt_le, nI_toInt (by decide)]
    omega
  by_cases q0 : x < nI lo
  · rw [if_pos (e0.mpr q0), if_pos q0]
  · rw [if_neg (fun z => q0 (e0.mp z)), if_neg q0]
    by_cases q1 : nI 12 ≤ x
    · rw [if_pos (e1.mpr q1), if_pos q1]
    · rw [if_neg (fun z => q1 (e1.mp z)), if_neg q1]
theorem ck1_100 {α : Type} (K : Option α) : ck 1 100 K = K := ck_nI (j := 1) K (by decide) (by decide)
theorem ck0_100 {α : Type} (K : Option α) : ck 0 100 K = K := ck_nI (j := 0) K (by decide) (by decide)
theorem cl_1 : (1 : Int32).toNatClampNeg = 1 := by decide
theorem cl_0 : (0 : Int32).toNatClampNeg = 0 := by decide
theorem q_hours (a0 a1 : Int32) (hx hm : AH) : (f_X7_areHours a0 a1 hx = some (0, hx) ∧ f_X8_areHours a0 a1 hm = some (0, hm)) ∨ ∃ lo hi : Nat, lo ≤ hi ∧ hi ≤ 11 ∧ a0 = nI lo ∧ a1 = nI hi ∧ f_X7_areHours a0 a1 hx = some (1, hx) ∧ f_X8_areHours a0 a1 hm = some (1, hm) := by
  unfold f_X7_areHours f_X8_areHours
  rw [x_isHour, bd_s, m_in11, bd_s]
  rcases rg_cases a0 (n := 12) (by decide) with h0 | ⟨lo, h0, rfl⟩
  · rw [h0, if_pos rfl, if_pos rfl]; exact Or.inl ⟨rfl, rfl⟩
  rw [rg_in h0 (by decide), if_neg n10, if_neg n10, x_isHour, bd_s, m_inH _ (by omega), bd_s]
  rcases rg_cases a1 (n := 12) (by decide) with h1 | ⟨hi, h1, rfl⟩
  · have e : (if a1 < nI lo then (0 : Int32) else if nI 12 ≤ a1 then 0 else 1) = 0 := by
      by_cases c : a1 < nI lo
      · rw [if_pos c]
      · rw [if_neg c]
        by_cases c2 : nI 12 ≤ a1
        · rw [if_pos c2]
        · exfalso
          have c3 : ¬ a1 < 0 := fun z => c (by
            rw [Int32.lt_iff_toInt_lt] at z ⊢
            rw [nI_toInt (by omega)]
            have : (0 : Int32).toInt = 0 := by decide
            omega)
          unfold rg at h1
          rw [if_neg c3, if_neg c2] at h1
          exact absurd h1 (by decide)
    rw [h1, e, if_pos rfl, if_pos rfl]
    exact Or.inl ⟨rfl, rfl⟩
  rw [rg_in h1 (by decide), if_neg n10]
  by_cases c : lo ≤ hi
  · rw [if_neg (nI_nlt c (by omega)), if_neg (nI_nlt c (by omega)), if_neg (nI_ge h1 (by decide)), if_neg n10]
    exact Or.inr ⟨lo, hi, c, by omega, rfl, rfl, rfl, rfl⟩
  · rw [if_pos (nI_lt (by omega) (by omega)), if_pos (nI_lt (by omega) (by omega)), if_pos rfl]
    exact Or.inl ⟨rfl, rfl⟩
theorem m_lay2 {σ : Sg} (w : WFs σ) : ∀ (r fuel a : Nat) (h : AH), a + r = σ 0 0 → r < fuel → MR (h 4) σ → (∀ a', a' < a → h 14 a' = nI (σ 2 a')) → ∃ h', f_X8_layCharters_2 0 fuel (nI a) h = some ((), h') ∧ (∀ c, c ≠ 14 → h' c = h c) ∧ ∀ a', a' < σ 0 0 → h' 14 a' = nI (σ 2 a') := by
  have w0 := w.1
  intro r
  induction r with
  | zero =>
    intro fuel a h ha hf hM hi
    obtain ⟨m, rfl⟩ : ∃ m, fuel = m + 1 := ⟨fuel - 1, by omega⟩
    rw [f_X8_layCharters_2, show (0 : Int32) = nI 0 from rfl, ck_nI _ (by decide) (by decide), cl_nI (by decide), Nat.zero_add, hM.1, if_pos (nI_le (by omega) (by omega))]
    exact ⟨h, rfl, fun _ _ => rfl, fun a' h' => hi a' (by omega)⟩
  | succ r ih =>
    intro fuel a h ha hf hM hi
    obtain ⟨m, rfl⟩ : ∃ m, fuel = m + 1 := ⟨fuel - 1, by omega⟩
    rw [f_X8_layCharters_2, show (0 : Int32) = nI 0 from rfl, ck_nI _ (by decide) (by decide), cl_nI (by decide), Nat.zero_add, hM.1, if_neg (nI_ge (by omega) (by omega)), m_archOf h (by omega) (by decide), bd_s, ck_nI _ (show a < 6 by omega) (by decide), cl_nI (by omega), lt_s2, lt_s2, nI_1, Nat.zero_add, show 16 + 7 * a + 0 = 16 + 7 * a from rfl, (hM.2.2.2.2.2.1 a (by omega)).1]
    obtain ⟨h', r1, r2, r3⟩ := ih m (a + 1) (hset h 14 a (nI (σ 2 a))) (by omega) (by omega) (by rw [hs_cell _ _ _ _ _ (by decide)]; exact hM) (fun a' ha' => by
      rw [hs_row, upd_lit]
      by_cases c : a' = a
      · rw [if_pos c, c]
      · rw [if_neg c]; exact hi a' (by omega))
    exact ⟨h', r1, fun c hc => by rw [r2 c hc, hs_cell _ _ _ _ _ hc], r3⟩
theorem m_lay {σ : Sg} (w : WFs σ) {h : AH} (hM : MR (h 4) σ) : ∃ h', f_X8_layCharters 0 h = some ((), h') ∧ (∀ c, c ≠ 14 → h' c = h c) ∧ ∀ a', a' < σ 0 0 → h' 14 a' = nI (σ 2 a') := by
  have w0 := w.1
  exact m_lay2 w (σ 0 0) fu 0 h (by omega) (fu_ge _ (by omega)) hM (fun a' h' => absurd h' (Nat.not_lt_zero a'))
theorem m_none2 : ∀ (r fuel i : Nat) (h : AH), i + r = 144 → r < fuel → (∀ y, y < i → h 9 y = 0) → ∃ h', f_X8_noneTaken_2 0 fuel (nI i) h = some ((), h') ∧ (∀ c, c ≠ 9 → h' c = h c) ∧ ∀ y, y < 144 → h' 9 y = 0 := by
  intro r
  induction r with
  | zero =>
    intro fuel i h hi hf hz
    obtain ⟨n, rfl⟩ : ∃ n, fuel = n + 1 := ⟨fuel - 1, by omega⟩
    rw [f_X8_noneTaken_2, if_pos (show (144 : Int32) ≤ nI i from nI_le (a := 144) (by omega) (by omega))]
    exact ⟨h, rfl, fun _ _ => rfl, fun y hy => hz y (by omega)⟩
  | succ r ih =>
    intro fuel i h hi hf hz
    obtain ⟨n, rfl⟩ : ∃ n, fuel = n + 1 := ⟨fuel - 1, by omega⟩
    rw [f_X8_noneTaken_2, if_neg (show ¬ (144 : Int32) ≤ nI i from nI_ge (b := 144) (by omega) (by decide)), ck_nI _ (by omega) (by decide), cl_nI (by omega), lt_s2, lt_s2, nI_1, vb_0, Nat.zero_add]
    obtain ⟨g, g1, g2, g3⟩ := ih n (i + 1) (hset h 9 i 0) (by omega) (by omega) (fun y hy => by
      rw [hs_row, upd_lit]
      split
      · rfl
      · exact hz y (by omega))
    exact ⟨g, g1, fun c hc => by rw [g2 c hc, hs_cell _ _ _ _ _ hc], g3⟩
theorem m_none (h : AH) : ∃ h', f_X8_noneTaken 0 h = some ((), h') ∧ (∀ c, c ≠ 9 → h' c = h c) ∧ ∀ y, y < 144 → h' 9 y = 0 :=
  m_none2 144 fu 0 h (by decide) (fu_ge _ (by decide)) (fun y hy => absurd hy (Nat.not_lt_zero y))
theorem q_two {σ : Sg} {lo hi l : Nat} {ch : Nat → Nat} {T : Nat → Bool} {c0 c1 : Nat} (h0 : Gr (q_F (q_Ed σ lo hi ch 0) T) l (σ 0 1) c0) (h1 : Gr (q_F (q_Ed σ lo hi ch 1) T) l (σ 0 1) c1) : Gr (q_ET σ lo hi ch T) l (σ 0 1) (c0 + c1) := by
  refine Gr_two (d := fun b => decide (sd σ b = 1)) (fun b c p e1 e2 => ?_) (Gr_c (fun b p _ _ => ?_) h0) (Gr_c (fun b p _ _ => ?_) h1)
  · have a1 := e1.1.2.2.1
    have a2 := e2.1.2.2.1
    show decide (sd σ b = 1) = decide (sd σ c = 1)
    rw [← a1, ← a2]
  · have hs := sd_lt σ b
    show ((sd σ b = 0 ∧ q_Eg σ lo hi ch b p) ∧ T p = false) ↔ decide (sd σ b = 1) = false ∧ q_Eg σ lo hi ch b p ∧ T p = false
    rw [decide_eq_false_iff_not]
    constructor
    · rintro ⟨⟨a1, a2⟩, a3⟩; exact ⟨by omega, a2, a3⟩
    · rintro ⟨a1, a2, a3⟩; exact ⟨⟨by omega, a2⟩, a3⟩
  · show ((sd σ b = 1 ∧ q_Eg σ lo hi ch b p) ∧ T p = false) ↔ decide (sd σ b = 1) = true ∧ q_Eg σ lo hi ch b p ∧ T p = false
    rw [decide_eq_true_iff]
    constructor
    · rintro ⟨⟨a1, a2⟩, a3⟩; exact ⟨a1, a2, a3⟩
    · rintro ⟨a1, a2, a3⟩; exact ⟨⟨a1, a2⟩, a3⟩
theorem q_twoD {σ : Sg} {lo hi l d : Nat} {ch : Nat → Nat} {T : Nat → Bool} {c0 c1 : Nat} (hd : d < 2) (h0 : Gr (q_F (q_Ed σ lo hi ch d) T) l (σ 0 1) c0) (h1 : Gr (q_F (q_Ed σ lo hi ch (1 - d)) T) l (σ 0 1) c1) : Gr (q_ET σ lo hi ch T) l (σ 0 1) (c0 + c1) := by
  rcases (show d = 0 ∨ d = 1 by omega) with rfl | rfl
  · exact q_two h0 h1
  · rw [Nat.add_comm]; exact q_two h1 h0
/-- one place more is taken -/
theorem q_ETa {σ : Sg} {lo hi : Nat} {ch : Nat → Nat} {T : Nat → Bool} {p b q : Nat} : (q_ET σ lo hi ch T b q ∧ q ≠ p) ↔ q_ET σ lo hi ch (q_add T p) b q := by
  unfold q_ET
  rw [q_add_f]
  exact ⟨fun z => ⟨z.1.1, z.1.2, z.2⟩, fun z => ⟨⟨z.1, z.2.1⟩, z.2.2⟩⟩
theorem q_other {σ : Sg} {lo hi l d p c : Nat} {ch : Nat → Nat} {T : Nat → Bool} (hp : p / 72 ≠ d) (h : Gr (q_F (q_Ed σ lo hi ch d) T) l (σ 0 1) c) : Gr (q_F (q_Ed σ lo hi ch d) (q_add T p)) l (σ 0 1) c := by
  refine Gr_c (fun b q _ _ => ?_) h
  unfold q_F
  rw [q_add_f]
  constructor
  · rintro ⟨a1, a2⟩
    refine ⟨a1, a2, fun e => hp ?_⟩
    rw [← e, a1.2.2.2.1]; exact a1.1
  · rintro ⟨a1, a2, -⟩; exact ⟨a1, a2⟩
theorem q_gg {σ : Sg} {lo hi d q L n p : Nat} {ch : Nat → Nat} {T : Nat → Bool} (w : WFs σ) (hd : d < 2) (hq : sd σ q = d) (hp : p / 72 = d) (hL : Gr (q_F (q_Ed σ lo hi ch d) T) q (σ 0 1) L) (hn : Gr (q_ET σ lo hi ch T) q (σ 0 1) n) : q_gm σ lo hi ch T q n p ↔ q_gx σ lo hi ch d T q L p := by
  have w1 := w.2.1
  obtain ⟨e, he⟩ := Gr_ex (q_F (q_Ed σ lo hi ch (1 - d)) T) q (σ 0 1)
  have en := Gr_u hn (q_twoD hd hL he)
  have he1 := q_other (p := p) (by omega) (Gr_skip he (fun x z => by have := z.1.1; omega) w1)
  constructor
  · rintro ⟨z1, c, z2, z3⟩
    obtain ⟨c', hc'⟩ := Gr_ex (q_F (q_Ed σ lo hi ch d) (q_add T p)) (q + 1) (σ 0 1)
    have := Gr_u z2 (q_twoD hd hc' he1)
    exact ⟨⟨⟨hq, z1.1⟩, z1.2⟩, c', hc', by omega⟩
  · rintro ⟨z1, c, z2, z3⟩
    exact ⟨⟨z1.1.2, z1.2⟩, c + e, q_twoD hd z2 he1, by omega⟩
theorem q_stay {σ : Sg} {lo hi q n : Nat} {ch : Nat → Nat} {T : Nat → Bool} (w : WFs σ) (hn : Gr (q_ET σ lo hi ch T) q (σ 0 1) n) (hno : ∀ j, j < 72 → ¬ q_gm σ lo hi ch T q n (72 * sd σ q + j)) : Gr (q_ET σ lo hi ch T) (q + 1) (σ 0 1) n := by
  have w1 := w.2.1
  obtain ⟨c, hc⟩ := Gr_ex (q_ET σ lo hi ch T) (q + 1) (σ 0 1)
  have e := Gr_next hn hc (fun p m hE hm e => ?_) (fun p _ => Gr_ex _ _ _) w1
  · rw [← e]; exact hc
  · have a1 := hE.1.2.1
    have a2 := hE.1.2.2.1
    refine hno (p % 72) (by omega) ?_
    rw [show 72 * sd σ q + p % 72 = p by omega]
    exact ⟨hE, m, Gr_c (fun b x _ _ => q_ETa) hm, e⟩
theorem q_CS_T {h : AH} {σ : Sg} {d lo hi p : Nat} {ch : Nat → Nat} {T : Nat → Bool} (w : WFs σ) (hp : p / 72 ≠ d) (hS : q_CS h σ d lo hi ch T) : q_CS h σ d lo hi ch (q_add T p) := by
  have w0 := w.1
  obtain ⟨s1, s2, s3, s4⟩ := hS
  refine ⟨s1, s2, s3, fun a ha t ht => ?_⟩
  rw [s4 a ha t ht, q_add_t]
  exact ⟨Or.inl, fun z => z.elim id (fun y => absurd y (by omega))⟩
theorem q_lock {σ : Sg} {lo hi d k : Nat} {ch : Nat → Nat} {hx0 hm0 : AH} (w : WFs σ) (hl : lo ≤ hi) (hh : hi ≤ 11) (hk : k < σ 0 1) (hd : d = sd σ k) : ∀ (r f1 f2 q : Nat) (T : Nat → Bool) (L n : Nat) (hx hm : AH) (vx vm : Int32), q + r = k + 1 → r < f1 → r < f2 → q_fx hx0 hx → q_fm hm0 hm → RQ (hx 56) → q_CS hx σ d lo hi ch T → q_MS hm σ lo hi ch T → Gr (q_F (q_Ed σ lo hi ch d) T) q (σ 0 1) L → Gr (q_ET σ lo hi ch T) q (σ 0 1) n → (r = 0 → vx = vm) → ∃ v hx' hm', f_X3_whenGoes_22 49 17 f1 (nI lo) (nI hi) (nI k) (nI L) vx (nI q) hx = some (v, hx') ∧ f_X8_most_85 0 f2 (nI k) (nI n) vm (nI q) hm = some (v, hm') ∧ q_fx hx0 hx' ∧ q_fm hm0 hm' ∧ RQ (hx' 56) := by
  have hsk := sd_lt σ k
  have w1 := w.2.1
  intro r
  induction r with
  | zero =>
    intro f1 f2 q T L n hx hm vx vm hq hf1 hf2 hFx hFm hQ hS hM hL hn hv
    obtain ⟨m1, rfl⟩ : ∃ m, f1 = m + 1 := ⟨f1 - 1, by omega⟩
    obtain ⟨m2, rfl⟩ : ∃ m, f2 = m + 1 := ⟨f2 - 1, by omega⟩
    rw [f_X3_whenGoes_22, f_X8_most_85, if_pos (nI_lt (by omega) (by omega)), if_pos (nI_lt (by omega) (by omega)), hv rfl]
    exact ⟨vm, hx, hm, rfl, rfl, hFx, hFm, hQ⟩
  | succ r ih =>
    intro f1 f2 q T L n hx hm vx vm hq hf1 hf2 hFx hFm hQ hS hM hL hn hv
    obtain ⟨m1, rfl⟩ : ∃ m, f1 = m + 1 := ⟨f1 - 1, by omega⟩
    obtain ⟨m2, rfl⟩ : ∃ m, f2 = m + 1 := ⟨f2 - 1, by omega⟩
    have hqN : q < σ 0 1 := by omega
    have L6 := Gr_le hL
    have n6 := Gr_le hn
    have hsq := sd_lt σ q
    have sub0 : ∀ y, nI y - 0 = nI y := fun y => by
      have := pk_sub (a := y) (b := 0) (Nat.zero_le _)
      exact this
    have sub1 : ∀ c y, c + 1 = y → nI y - 1 = nI c := fun c y e => by rw [← e, nI_pred]
    rw [f_X3_whenGoes_22, f_X8_most_85, if_neg (nI_nlt (by omega) (by omega)), if_neg (nI_nlt (by omega) (by omega))]
    rcases m_firstOf hM w (by omega) hh hqN n6 with ⟨k', hm1, y1, y2, y3, y4, y5, y6⟩ | ⟨hm1, y2, y3, y4, y5⟩
    · obtain ⟨c, yc1, yc2⟩ := y5.2
      rw [y2, bd_s, if_neg (none_ne (by omega)), lt_s2, lt_s2, nI_1, sub1 c n yc2]
      have hFm1 : q_fm hm0 hm1 := fun c hc => by rw [y3 c hc, hFm c hc]
      rcases x_settle hS hQ w (by omega) hl hh hqN L6 with ⟨k2, hx1, z1, z2, z3, z4, z5, z6, z7⟩ | ⟨hx1, z2, z3, z4, z5, z6⟩
      · have hFx1 : q_fx hx0 hx1 := fun c hc => by rw [z3 c hc, hFx c hc]
        have hqd : sd σ q = d := z6.1.1.1
        obtain ⟨c', zc1, zc2⟩ := z6.2
        rw [hqd] at y4 y5 y6
        have ek : k' = k2 := by
          have a1 : ¬ k' < k2 := fun lt => z7 k' lt ((q_gg w (by omega) hqd (by omega) hL hn).mp y5)
          have a2 : ¬ k2 < k' := fun lt => y6 k2 lt ((q_gg w (by omega) hqd (by omega) hL hn).mpr z6)
          omega
        subst ek
        rw [hqd] at yc1
        rw [z2, bd_s, if_neg (none_ne (by omega)), lt_s2, lt_s2, sub1 c' L zc2]
        exact ih m1 m2 (q + 1) _ c' c hx1 hm1 _ _ (by omega) (by omega) (by omega) hFx1 hFm1 z4 z5 y4 zc1 yc1 (fun _ => rfl)
      · have hFx1 : q_fx hx0 hx1 := fun c hc => by rw [z3 c hc, hFx c hc]
        by_cases hqd : sd σ q = d
        · exfalso
          rw [hqd] at y5
          exact z6 k' y1 ((q_gg w (by omega) hqd (by omega) hL hn).mp y5)
        · rw [z2, bd_s, if_pos rfl, lt_s2, lt_s2, sub0]
          refine ih m1 m2 (q + 1) _ L c hx1 hm1 _ _ (by omega) (by omega) (by omega) hFx1 hFm1 z4 (q_CS_T w (by omega) z5) y4 (q_other (by omega) (Gr_skip hL (fun x z => hqd z.1.1) w1)) yc1 (fun r0 => ?_)
          exfalso
          have : q = k := by omega
          rw [this] at hqd
          exact hqd hd.symm
    · rw [y2, bd_s, if_pos rfl, lt_s2, lt_s2, nI_1, sub0]
      have hFm1 : q_fm hm0 hm1 := fun c hc => by rw [y3 c hc, hFm c hc]
      have hn1 := q_stay w hn y5
      rcases x_settle hS hQ w (by omega) hl hh hqN L6 with ⟨k2, hx1, z1, z2, z3, z4, z5, z6, z7⟩ | ⟨hx1, z2, z3, z4, z5, z6⟩
      · exfalso
        have hqd : sd σ q = d := z6.1.1.1
        rw [hqd] at y5
        exact y5 k2 z1 ((q_gg w (by omega) hqd (by omega) hL hn).mpr z6)
      · have hFx1 : q_fx hx0 hx1 := fun c hc => by rw [z3 c hc, hFx c hc]
        rw [z2, bd_s, if_pos rfl, lt_s2, lt_s2, sub0]
        refine ih m1 m2 (q + 1) _ L n hx1 hm1 _ _ (by omega) (by omega) (by omega) hFx1 hFm1 z4 z5 y4 ?_ hn1 (fun _ => rfl)
        by_cases hqd : sd σ q = d
        · obtain ⟨e, he⟩ := Gr_ex (q_F (q_Ed σ lo hi ch (1 - d)) T) q (σ 0 1)
          have en := Gr_u hn (q_twoD (by omega) hL he)
          have he1 := Gr_skip he (fun x z => by have := z.1.1; omega) w1
          obtain ⟨c', hc'⟩ := Gr_ex (q_F (q_Ed σ lo hi ch d) T) (q + 1) (σ 0 1)
          have := Gr_u hn1 (q_twoD (by omega) hc' he1)
          have ec : c' = L := by omega
          rw [← ec]; exact hc'
        · exact Gr_skip hL (fun x z => hqd z.1.1) w1
theorem ok_most (a0 a1 a2 : Int32) : OK2 Rel (fun h => f_X7_most 0 a0 a1 a2 h) (fun h => f_X8_most 0 a0 a1 a2 h) := by
  intro hx hm hR
  show ∃ r hx2 hm2, f_X7_most 0 a0 a1 a2 hx = some (r, hx2) ∧ f_X8_most 0 a0 a1 a2 hm = some (r, hm2) ∧ Rel hx2 hm2
  have hR1 := rel_thrown hR
  unfold f_X7_most f_X8_most
  rw [lt_s2]
  generalize hset hm 0 0 0 = hm1 at hR1 ⊢
  obtain ⟨σ, w, hC, hM, h7, -⟩ := hR1.2.2.2.1
  have hQ := hR1.2.2.2.2.2.2.2.2
  have hC : CQ hx 17 σ := hC
  have w0 := w.1
  have w1 := w.2.1
  have w4 := w.2.2.2.1
  rw [Nat.zero_add, Nat.zero_add, show hx 17 0 = nI (σ 0 4) from hC.1, h7]
  rcases (show σ 0 4 = 0 ∨ σ 0 4 = 1 by omega) with h4 | h4
  · rw [h4, if_n0, if_n0]
    exact ⟨_, _, _, rfl, rfl, hR1⟩
  rw [h4, if_n1, if_n1]
  rcases q_hours a0 a1 hx hm1 with ⟨e1, e2⟩ | ⟨lo, hi, hl, hh, rfl, rfl, e1, e2⟩
  · rw [e1, e2, bd_s, bd_s, if_pos rfl, if_pos rfl]
    exact ⟨_, _, _, rfl, rfl, hR1⟩
  rw [e1, e2, bd_s, bd_s, if_neg n10, if_neg n10, ck1_100, cl_1, Nat.zero_add, hM.2.1, m_inK _ (by omega), bd_s, show hx 17 2 = nI (σ 0 1) from hC.2.2.1]
  by_cases c1 : a2 < -1
  · rw [if_pos c1, if_pos c1, if_pos rfl]
    exact ⟨_, _, _, rfl, rfl, hR1⟩
  rw [if_neg c1, if_neg c1]
  by_cases c2 : a2 < nI (σ 0 1)
  case neg =>
    rw [if_neg c2, if_neg c2, if_pos rfl]
    exact ⟨_, _, _, rfl, rfl, hR1⟩
  rw [if_pos c2, if_pos c2, if_neg n10, lt_s2, lt_s2]
  have hM2 : MR (hset (hset hm1 0 26 (nI lo)) 0 27 (nI hi) 4) σ := by rw [hs_cell _ _ _ _ _ (by decide), hs_cell _ _ _ _ _ (by decide)]; exact hM
  have k26 : hset (hset hm1 0 26 (nI lo)) 0 27 (nI hi) 0 26 = nI lo := by rw [hs_place _ _ _ _ _ (by decide), hs_self]
  have k27 : hset (hset hm1 0 26 (nI lo)) 0 27 (nI hi) 0 27 = nI hi := hs_self _ _ _ _
  have ko : ∀ c, c ≠ 0 → hset (hset hm1 0 26 (nI lo)) 0 27 (nI hi) c = hm1 c := fun c hc => by rw [hs_cell _ _ _ _ _ hc, hs_cell _ _ _ _ _ hc]
  have k0 : ∀ k, k ≠ 26 → k ≠ 27 → hset (hset hm1 0 26 (nI lo)) 0 27 (nI hi) 0 k = hm1 0 k := fun k n1 n2 => by rw [hs_place _ _ _ _ _ n2, hs_place _ _ _ _ _ n1]
  generalize hset (hset hm1 0 26 (nI lo)) 0 27 (nI hi) = hm2 at hM2 k26 k27 ko k0 ⊢
  obtain ⟨hm3, l1, l2, l3⟩ := m_lay w hM2
  obtain ⟨hm4, t1, t2, t3⟩ := m_none hm3
  rw [l1, bd_s, t1, bd_s, show (0 : Int32) = nI 0 from rfl]
  have hS4 : q_MS hm4 σ lo hi (fun a => σ 2 a) (fun _ => false) := by
    unfold q_MS
    rw [t2 4 (by decide), t2 0 (by decide), t2 14 (by decide), l2 4 (by decide), l2 0 (by decide)]
    exact ⟨hM2, k26, k27, fun a ha => ⟨(wf_a w ha).1, l3 a ha⟩, fun p hp => t3 p hp⟩
  obtain ⟨n, hm5, n1, n2, n3⟩ := m_mostFrom hS4 w (by omega) hh (Nat.zero_le (σ 0 1))
  rw [n1, bd_s]
  have fr : ∀ (hx' hm' : AH), q_fx hx hx' → RQ (hx' 56) → q_fm hm5 hm' → Rel hx' hm' := fun hx' hm' f1 f2 f3 => by
    refine rel_fore hR1 f1 (fun c c0 hc => ?_) (fun k k1 k2 k3 => ?_) f2
    · rw [f3 c (by omega), n2 c (by omega) (by omega) (by omega) (by omega) (by omega), t2 c (by omega), l2 c (by omega), ko c c0]
    · rw [f3 0 (by omega), n2 0 (by decide) (by decide) (by decide) (by decide) (by decide), t2 0 (by decide), l2 0 (by decide), k0 k k2 k3]
  by_cases c3 : nI 0 ≤ a2
  · rw [if_pos c3, if_pos c3]
    obtain ⟨k, hk2, rfl⟩ := nI_of (x := a2) (fun z => by
      rw [Int32.lt_iff_toInt_lt] at z
      rw [Int32.le_iff_toInt_le, nI_toInt (by decide)] at c3
      have : (0 : Int32).toInt = 0 := by decide
      omega)
    have hk : k < σ 0 1 := (nI_ltI hk2 (by omega)).mp c2
    have hsk := sd_lt σ k
    unfold f_X3_whenGoes
    rw [x_sideOf hC w hk, bd_s]
    obtain ⟨L, hx1, g1, g2, g3, g4, g5⟩ := x_greatestOf (ch := fun a => σ 2 a) hC w hsk hl hh (fun _ _ _ => rfl) hQ
    rw [g1, bd_s]
    obtain ⟨v, hx', hm', v1, v2, v3, v4, v5⟩ := q_lock (hx0 := hx1) (hm0 := hm5) w hl hh hk rfl (k + 1) fu fu 0 (fun _ => false) L n hx1 hm5 (-1000000) (-1000000) (by omega) (fu_ge _ (by omega)) (fu_ge _ (by omega)) (fun _ _ => rfl) (fun _ _ => rfl) g3 g4 (q_MS_c hS4 n2) g5 n3 (fun _ => rfl)
    rw [show (0 : Int32) = nI 0 from rfl, v1, bd_s, v2]
    exact ⟨v, hx', hm', rfl, rfl, fr _ _ (fun c hc => by rw [v3 c hc, g2 c hc]) v5 v4⟩
  · rw [if_neg c3, if_neg c3]
    unfold f_X3_greatest
    obtain ⟨c0, hx1, g1, g2, g3, g4, g5⟩ := x_greatestOf (d := 0) (ch := fun a => σ 2 a) hC w (by decide) hl hh (fun _ _ _ => rfl) hQ
    obtain ⟨c1', hx2, i1, i2, i3, i4, i5⟩ := x_greatestOf (d := 1) (ch := fun a => σ 2 a) (q_CQ_c hC (fun c a1 a2 => g2 c (by omega))) w (by decide) hl hh (fun _ _ _ => rfl) g3
    rw [show (0 : Int32) = nI 0 from rfl, g1, bd_s, show (1 : Int32) = nI 1 from rfl, i1, bd_s, bd_s, nI_add]
    have en := Gr_u n3 (q_two g5 i5)
    rw [en]
    exact ⟨_, hx2, hm5, rfl, rfl, fr _ _ (fun c hc => by rw [i2 c hc, g2 c hc]) i3 (fun _ _ => rfl)⟩
