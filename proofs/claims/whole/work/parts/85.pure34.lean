/-! ===== charters given anew ===== -/
theorem cf_bt : ∀ t, t < 16 → ∀ c, c < 5 → bt (nI (cfb t)) c = decide (lb c t = 1) := by decide +kernel
theorem x_hope4 {n : Nat} (hn : n ≤ 6) {c : Nat → Nat} {h : AH} (hR : q_RW (h 52) n c) (h8 : h 49 8 = nI n) : ∀ (r fuel a : Nat) (U : Int32), a + r = n → r < fuel → (∀ i, i < 32 → (bt U i = true ↔ ∃ a', a' < a ∧ c a' = i)) → ∃ V, f_X3_countHopeful_4 49 fuel U (nI a) h = f_X3_countHopeful_33 49 fu V 0 0 h ∧ ∀ i, i < 32 → (bt V i = true ↔ ∃ a', a' < n ∧ c a' = i) := by
  intro r
  induction r with
  | zero =>
    intro fuel a U ha hf hU
    obtain ⟨m, rfl⟩ : ∃ m, fuel = m + 1 := ⟨fuel - 1, by omega⟩
    rw [f_X3_countHopeful_4, h8, if_pos (nI_le (by omega) (by omega))]
    have : a = n := by omega
    subst this
    exact ⟨U, rfl, hU⟩
  | succ r ih =>
    intro fuel a U ha hf hU
    obtain ⟨m, rfl⟩ : ∃ m, fuel = m + 1 := ⟨fuel - 1, by omega⟩
    have hc := hR a (by omega)
    rw [f_X3_countHopeful_4, h8, if_neg (nI_ge (by omega) (by omega)), ck_nI _ (by omega) (by decide), cl_nI (by omega), lt_s2, lt_s2, nI_1, show h (49 + 3) a = nI (c a) from hc.2]
    refine ih m (a + 1) _ (by omega) (by omega) (fun i hi => ?_)
    rw [bt_or, bt_one (c a) (by omega) i hi, Bool.or_eq_true, hU i hi, decide_eq_true_iff]
    constructor
    · rintro (⟨a', q1, q2⟩ | q)
      · exact ⟨a', by omega, q2⟩
      · exact ⟨a, by omega, q.symm⟩
    · rintro ⟨a', q1, q2⟩
      by_cases e : a' = a
      · exact Or.inr (by rw [← q2, e])
      · exact Or.inl ⟨a', by omega, q2⟩
theorem x_hope47 {n : Nat} (hn : n ≤ 6) {h : AH} (h8 : h 49 8 = nI n) {b m : Nat} (hb : b < 6) (V : Int32) (K : Int32 → Int32 → Int32 → AH → Option (Int32 × AH)) : ∀ (r fuel a : Nat) (R : Int32), a + r = n → r < fuel → (∀ a' i, a' < a → i < 32 → bt (h 50 (6 * b + a')) i = true → bt R i = true) → ∃ v, v ≤ 1 ∧ f_X3_countHopeful_47 49 K fuel V (nI m) (nI b) R (nI a) h = K V (nI (m + v)) (nI (b + 1)) h ∧ ((∃ a' i, a' < n ∧ i < 32 ∧ bt (h 50 (6 * b + a')) i = true) → (∃ i, i < 32 ∧ bt (h 51 b) i = true ∧ bt V i = true) → v = 1) := by
  intro r
  induction r with
  | zero =>
    intro fuel a R ha hf hR
    obtain ⟨f, rfl⟩ : ∃ f, fuel = f + 1 := ⟨fuel - 1, by omega⟩
    have : a = n := by omega
    subst this
    rw [f_X3_countHopeful_47, h8, if_pos (nI_le (by omega) (by omega))]
    by_cases q : R = 0
    · rw [if_pos q, lt_s2, lt_s2, nI_1, show (0 : Int32) = nI 0 from rfl, nI_add]
      refine ⟨0, by decide, rfl, fun ⟨a', i, z1, z2, z3⟩ _ => ?_⟩
      have := bt_z.mp q i z2
      rw [hR a' i z1 z2 z3] at this
      exact absurd this (by decide)
    · rw [if_neg q, ck_nI _ hb (by decide), cl_nI (by omega), show h (49 + 2) b = h 51 b from rfl]
      by_cases q2 : (h 51 b &&& V) = 0
      · rw [if_pos q2, lt_s2, lt_s2, nI_1, show (0 : Int32) = nI 0 from rfl, nI_add]
        refine ⟨0, by decide, rfl, fun _ ⟨i, z1, z2, z3⟩ => ?_⟩
        have := bt_z.mp q2 i z1
        rw [bt_and, z2, z3] at this
        exact absurd this (by decide)
      · rw [if_neg q2, lt_s2, lt_s2, nI_1, nI_1]
        exact ⟨1, by decide, rfl, fun _ _ => rfl⟩
  | succ r ih =>
    intro fuel a R ha hf hR
    obtain ⟨f, rfl⟩ : ∃ f, fuel = f + 1 := ⟨fuel - 1, by omega⟩
    rw [f_X3_countHopeful_47, h8, if_neg (nI_ge (by omega) (by omega)), lt_s2, show nI b * 6 + nI a = nI (b * 6 + a) by rw [L6, pk_mul, nI_add], ck_nI _ (by omega) (by decide), cl_nI (by omega), lt_s2, lt_s2, nI_1, show h (49 + 1) (b * 6 + a) = h 50 (b * 6 + a) from rfl]
    refine ih f (a + 1) _ (by omega) (by omega) (fun a' i h1 h2 h3 => ?_)
    rw [bt_or]
    by_cases e : a' = a
    · rw [show b * 6 + a = 6 * b + a' by omega, h3, Bool.or_true]
    · rw [hR a' i (by omega) h2 h3, Bool.true_or]
theorem x_hope33 {n N : Nat} (hn : n ≤ 6) (hN : N ≤ 6) {h : AH} (h8 : h 49 8 = nI n) (h9 : h 49 9 = nI N) (V : Int32) {hp : Nat → Bool} (hhp : ∀ b, b < N → hp b = true → (∃ a' i, a' < n ∧ i < 32 ∧ bt (h 50 (6 * b + a')) i = true) ∧ (∃ i, i < 32 ∧ bt (h 51 b) i = true ∧ bt V i = true)) : ∀ (r fuel b m : Nat), b + r = N → r < fuel → cnt hp b ≤ m → ∃ Bd, f_X3_countHopeful_33 49 fuel V (nI m) (nI b) h = some (nI Bd, h) ∧ cnt hp N ≤ Bd ∧ Bd ≤ m + r := by
  intro r
  induction r with
  | zero =>
    intro fuel b m hb hf hm
    obtain ⟨f, rfl⟩ : ∃ f, fuel = f + 1 := ⟨fuel - 1, by omega⟩
    have : b = N := by omega
    subst this
    rw [f_X3_countHopeful_33, h9, if_pos (nI_le (by omega) (by omega))]
    exact ⟨m, rfl, hm, by omega⟩
  | succ r ih =>
    intro fuel b m hb hf hm
    obtain ⟨f, rfl⟩ : ∃ f, fuel = f + 1 := ⟨fuel - 1, by omega⟩
    obtain ⟨v, v1, v2, v3⟩ := x_hope47 hn h8 (b := b) (m := m) (by omega) V (f_X3_countHopeful_33 49 f) n fu 0 0 (by omega) (fu_ge _ (by omega)) (fun a' i h1 => absurd h1 (Nat.not_lt_zero a'))
    rw [f_X3_countHopeful_33, h9, if_neg (nI_ge (by omega) (by omega)), show f_X3_countHopeful_47 49 (f_X3_countHopeful_33 49 f) fu V (nI m) (nI b) 0 0 h = f_X3_countHopeful_47 49 (f_X3_countHopeful_33 49 f) fu V (nI m) (nI b) 0 (nI 0) h from rfl, v2]
    obtain ⟨Bd, r1, r2, r3⟩ := ih f (b + 1) (m + v) (by omega) (by omega) (by
      rw [cnt_s]
      by_cases q : hp b = true
      · rw [if_pos q]
        obtain ⟨z1, z2⟩ := hhp b (by omega) q
        have := v3 z1 z2
        omega
      · rw [if_neg q]; omega)
    exact ⟨Bd, r1, r2, by omega⟩
/-- no row of the same charters brings by more than are hoped for -/
theorem x_hope {h : AH} {σ : Sg} {lo hi : Nat} {c : Nat → Nat} {T : Nat → Bool} (hS : q_CS h σ 0 lo hi c T) (w : WFs σ) (hh : hi ≤ 11) : ∃ Bd, f_X3_countHopeful 49 h = some (nI Bd, h) ∧ Bd ≤ 6 ∧ ∀ c', (∀ a, a < σ 0 0 → c' a ≤ 4) → (∀ x, gc c' 0 (σ 0 0) x = gc c 0 (σ 0 0) x) → ∀ T' m, Gr (q_F (q_Ed σ lo hi c' 0) T') 0 (σ 0 1) m → m ≤ Bd := by
  have w0 := w.1
  have w1 := w.2.1
  obtain ⟨⟨s1, s1'⟩, s2, s3, s4⟩ := hS
  have hR : q_RW (h 52) (σ 0 0) c := fun a ha => by
    have := s3 a ha
    rw [if_pos rfl] at this
    exact this
  obtain ⟨V, V1, V2⟩ := x_hope4 w0 hR s1 (σ 0 0) fu 0 0 (by omega) (fu_ge _ (by omega)) (fun i hi => by
    rw [bt_0]
    exact ⟨fun z => absurd z (by decide), fun ⟨a', z, _⟩ => absurd z (Nat.not_lt_zero a')⟩)
  obtain ⟨Bd, b1, b2, b3⟩ := x_hope33 w0 w1 s1 s1' V (hp := fun b => cb ((∃ a' i, a' < σ 0 0 ∧ i < 32 ∧ bt (h 50 (6 * b + a')) i = true) ∧ (∃ i, i < 32 ∧ bt (h 51 b) i = true ∧ bt V i = true))) (fun b _ q => cb_t.mp q) (σ 0 1) fu 0 0 (by omega) (fu_ge _ (by omega)) (Nat.le_refl _)
  refine ⟨Bd, ?_, by omega, fun c' c4 cg T' m hm => ?_⟩
  · unfold f_X3_countHopeful
    rw [show f_X3_countHopeful_4 49 fu 0 0 h = f_X3_countHopeful_4 49 fu 0 (nI 0) h from rfl, V1]
    exact b1
  · obtain ⟨⟨S, f, g1, g2, g3⟩, -⟩ := hm
    refine Nat.le_trans ?_ b2
    rw [← g3]
    refine cnt_rel 6 S _ (σ 0 1) (fun i j => i = j) (fun b hb hs => ?_) (fun i k j _ _ _ _ a b => a.trans b.symm)
    obtain ⟨⟨e1, ⟨e2, e3⟩, e4, e5, e6, e7, e8⟩, -⟩ := g2.1 b hs
    rw [e1] at e5
    rw [if_pos e5] at e8
    refine ⟨b, e2, cb_t.mpr ?_, rfl⟩
    have g6 := (wf_a w e7).2.2.2.2.2
    obtain ⟨t1, t2⟩ := s2 b e2
    have c4a := c4 _ e7
    have el : σ 6 (f b % 6) = 0 ∧ lb (c' (f b % 6)) (tr σ b) = 1 ∧ q_rm σ b (f b % 6) (f b % 72 / 6) = 1 := by
      unfold ltb at e8
      by_cases q : σ 6 (f b % 6) = 1
      · rw [if_pos q] at e8; exact absurd e8 (by decide)
      · rw [if_neg q] at e8
        rcases lb_01 (c' (f b % 6)) (tr σ b) with z | z
        · rw [z, if_pos rfl] at e8; exact absurd e8 (by decide)
        · rw [z, if_neg (by decide)] at e8
          exact ⟨by omega, z, e8⟩
    refine ⟨⟨f b % 6, f b % 72 / 6, e7, by omega, ?_⟩, c' (f b % 6), by omega, ?_, ?_⟩
    · exact (t2 _ e7 _ (by omega)).mpr ⟨e6, e3, e1, el.1, el.2.2⟩
    · rw [t1, cf_bt (tr σ b) (tr_lt σ b) _ (by omega), el.2.1]; rfl
    · obtain ⟨a2, a3, a4⟩ := gc_has cg e7
      exact (V2 _ (by omega)).mpr ⟨a2, a3, a4⟩
theorem q_E1 {σ : Sg} {lo hi l A : Nat} {c c' : Nat → Nat} {T : Nat → Bool} (h : Gr (q_F (q_Ed σ lo hi c 1) T) l (σ 0 1) A) : Gr (q_F (q_Ed σ lo hi c' 1) T) l (σ 0 1) A := by
  refine Gr_c (fun b p _ _ => ?_) h
  unfold q_F q_Ed q_Eg
  constructor
  · rintro ⟨⟨e1, e2, e3, e4, e5, e6, e7⟩, e8⟩
    rw [if_neg (by omega)] at e7
    exact ⟨⟨e1, e2, e3, e4, e5, e6, by rw [if_neg (by omega)]; exact e7⟩, e8⟩
  · rintro ⟨⟨e1, e2, e3, e4, e5, e6, e7⟩, e8⟩
    rw [if_neg (by omega)] at e7
    exact ⟨⟨e1, e2, e3, e4, e5, e6, by rw [if_neg (by omega)]; exact e7⟩, e8⟩
def q_f2 (h h' : AH) : Prop := ∀ c, (c < 8 ∨ 15 < c) → h' c = h c
def q_mr (k : Int32) (A m : Nat) (h : AH) : Option (Int32 × AH) := if (0 : Int32) ≤ k then ck k 6 (some (h 15 k.toNatClampNeg, h)) else some (nI (A + m), h)
def q_T0 : Nat → Bool := fun _ => false
theorem q_MS_r {h h' : AH} {σ : Sg} {lo hi : Nat} {c c' : Nat → Nat} {T : Nat → Bool} (hS : q_MS h σ lo hi c T) (e : ∀ x, x ≠ 14 → h' x = h x) (hR : q_RW (h' 14) (σ 0 0) c') : q_MS h' σ lo hi c' T := by
  unfold q_MS
  rw [e 4 (by decide), e 0 (by decide), e 9 (by decide)]
  exact ⟨hS.1, hS.2.1, hS.2.2.1, hR, hS.2.2.2.2⟩
theorem q_CS_r {h h' : AH} {σ : Sg} {lo hi : Nat} {c c' : Nat → Nat} {T : Nat → Bool} (hS : q_CS h σ 0 lo hi c T) (e : ∀ x, x ≠ 52 → h' x = h x) (hR : q_RW (h' 52) (σ 0 0) c') : q_CS h' σ 0 lo hi c' T := by
  unfold q_CS
  rw [e 49 (by decide), e 50 (by decide), e 51 (by decide), e 54 (by decide)]
  exact ⟨hS.1, hS.2.1, fun a ha => by rw [if_pos rfl]; exact hR a ha, hS.2.2.2⟩
theorem q_CS_w {h : AH} {σ : Sg} {lo hi : Nat} {c : Nat → Nat} {T : Nat → Bool} (hS : q_CS h σ 0 lo hi c T) : q_RW (h 52) (σ 0 0) c := fun a ha => by
  have := hS.2.2.1 a ha
  rw [if_pos rfl] at this
  exact this
def q_BP (σ : Sg) (lo hi : Nat) (c0 : Nat → Nat) (A Bd : Nat) : Prop := (∀ c, (∀ a, a < σ 0 0 → c a ≤ 4) → (∀ x, gc c 0 (σ 0 0) x = gc c0 0 (σ 0 0) x) → ∀ m, Gr (q_F (q_Ed σ lo hi c 0) q_T0) 0 (σ 0 1) m → m ≤ Bd) ∧ (∀ c, Gr (q_F (q_Ed σ lo hi c 1) q_T0) 0 (σ 0 1) A) ∧ Bd ≤ 6 ∧ A ≤ 6
theorem m_alone {σ : Sg} {lo hi A Bd m : Nat} {c0 : Nat → Nat} {k : Int32} (w : WFs σ) (hl : lo ≤ 11) (hh : hi ≤ 11) (hBP : q_BP σ lo hi c0 A Bd) (hm : Bd ≤ m) (hm6 : m ≤ 6) : ∀ (r f2 : Nat) (c : Nat → Nat) (h : AH), 720 ≤ rs c (σ 0 0) (σ 0 0) + r → r + 1 < f2 → q_MS h σ lo hi c q_T0 → (∀ x, gc c 0 (σ 0 0) x = gc c0 0 (σ 0 0) x) → ∃ h', f_X8_anew_70 0 f2 k (nI (A + m)) 1 h = q_mr k A m h' ∧ h' 15 = h 15 ∧ q_f2 h h' := by
  have w0 := w.1
  obtain ⟨bp1, bp2, bp3, bp4⟩ := hBP
  intro r
  induction r with
  | zero =>
    intro f2 c h h7
    have := rs_720 c w0
    omega
  | succ r ih =>
    intro f2 c h h7 hf hS hG
    obtain ⟨f, rfl⟩ : ∃ f, f2 = f + 1 := ⟨f2 - 1, by omega⟩
    rw [f_X8_anew_70, if_neg n10, show f_X8_mostFrom 0 0 h = f_X8_mostFrom 0 (nI 0) h from rfl]
    obtain ⟨n, h1, n1, n2, n3⟩ := m_mostFrom hS w hl hh (Nat.zero_le (σ 0 1))
    obtain ⟨m', hm'⟩ := Gr_ex (q_F (q_Ed σ lo hi c 0) q_T0) 0 (σ 0 1)
    have e1 := Gr_u n3 (q_two hm' (bp2 c))
    have e2 := bp1 c (fun a ha => (hS.2.2.2.1 a ha).1) hG m' hm'
    rw [n1, bd_s, if_pos (nI_le (by omega) (by omega))]
    have hS1 := q_MS_c hS n2
    have fr1 : q_f2 h h1 := fun x hx => n2 x (by omega) (by omega) (by omega) (by omega) (by omega)
    rcases m_nextC w0 hS1.2.2.2.1 hS1.1.1 with ⟨x1, x2⟩ | ⟨c', h2, x1, x2, x3, x4⟩
    · rw [x2, bd_s]
      obtain ⟨g, rfl⟩ : ∃ g, f = g + 1 := ⟨f - 1, by omega⟩
      rw [f_X8_anew_70, if_pos rfl]
      exact ⟨h1, rfl, n2 15 (by decide) (by decide) (by decide) (by decide) (by decide), fr1⟩
    · rw [x2, bd_s]
      obtain ⟨y1, y2⟩ := nxt_s x1
      obtain ⟨h', r1, r2, r3⟩ := ih f c' h2 (by omega) (by omega) (q_MS_r hS1 x3 x4) (fun x => by rw [y1, hG])
      refine ⟨h', r1, ?_, fun x hx => ?_⟩
      · rw [r2, x3 15 (by decide)]; exact n2 15 (by decide) (by decide) (by decide) (by decide) (by decide)
      · rw [r3 x hx, x3 x (by omega), fr1 x hx]
theorem m_anew96 {σ : Sg} (w : WFs σ) {k x4 : Int32} {K : Int32 → Int32 → Int32 → AH → Option (Int32 × AH)} : ∀ (r fuel a : Nat) (h : AH), a + r = σ 0 0 → r < fuel → MR (h 4) σ → (∀ a', a' < a → h 15 a' = h 14 a') → ∃ h', f_X8_anew_96 0 K fuel k x4 (nI a) h = bd (f_X8_nextCharters 0 h') (fun v_3 h_2 => K k x4 v_3 h_2) ∧ (∀ c, c ≠ 15 → h' c = h c) ∧ ∀ a', a' < σ 0 0 → h' 15 a' = h' 14 a' := by
  have w0 := w.1
  intro r
  induction r with
  | zero =>
    intro fuel a h ha hf hM hi
    obtain ⟨m, rfl⟩ : ∃ m, fuel = m + 1 := ⟨fuel - 1, by omega⟩
    rw [f_X8_anew_96, ck0_100, cl_0, Nat.zero_add, hM.1, if_pos (nI_le (by omega) (by omega))]
    exact ⟨h, rfl, fun _ _ => rfl, fun a' h' => hi a' (by omega)⟩
  | succ r ih =>
    intro fuel a h ha hf hM hi
    obtain ⟨m, rfl⟩ : ∃ m, fuel = m + 1 := ⟨fuel - 1, by omega⟩
    rw [f_X8_anew_96, ck0_100, cl_0, Nat.zero_add, hM.1, if_neg (nI_ge (by omega) (by omega)), ck_nI _ (by omega) (by decide), ck_nI _ (by omega) (by decide), cl_nI (by omega), lt_s2, lt_s2, nI_1, Nat.zero_add, Nat.zero_add]
    obtain ⟨h', r1, r2, r3⟩ := ih m (a + 1) (hset h 15 a (h 14 a)) (by omega) (by omega) (by rw [hs_cell _ _ _ _ _ (by decide)]; exact hM) (fun a' ha' => by
      rw [hs_row, upd_lit, hs_cell _ _ _ _ 14 (by decide)]
      by_cases c : a' = a
      · rw [if_pos c, c]
      · rw [if_neg c]; exact hi a' (by omega))
    exact ⟨h', r1, fun c hc => by rw [r2 c hc, hs_cell _ _ _ _ _ hc], r3⟩
def q_bI : Option Nat → Int32
  | none => -1
  | some m => nI m
def q_mI (A : Nat) : Option Nat → Int32
  | none => -1
  | some m => nI (A + m)
theorem q_anew {σ : Sg} {lo hi A Bd : Nat} {c0 : Nat → Nat} {k : Int32} (w : WFs σ) (hl : lo ≤ 11) (hh : hi ≤ 11) (hBP : q_BP σ lo hi c0 A Bd) : ∀ (r f1 f2 row : Nat) (c : Nat → Nat) (bst : Option Nat) (hx hm : AH), 720 ≤ rs c (σ 0 0) (σ 0 0) + r → row ≤ rs c (σ 0 0) (σ 0 0) → r + 1 < f1 → r + 1 < f2 → q_CS hx σ 0 lo hi c q_T0 → RQ (hx 56) → q_MS hm σ lo hi c q_T0 → (∀ x, gc c 0 (σ 0 0) x = gc c0 0 (σ 0 0) x) → (∀ m, bst = some m → m ≤ Bd ∧ ∀ a, a < σ 0 0 → hx 53 a = hm 15 a) → ∃ m hx' hm', f_X3_dealAnew_37 49 17 f1 (nI A) (nI Bd) (q_bI bst) 1 (nI row) hx = some (nI (A + m), hx') ∧ f_X8_anew_70 0 f2 k (q_mI A bst) 1 hm = q_mr k A m hm' ∧ (∀ a, a < σ 0 0 → hx' 53 a = hm' 15 a) ∧ q_fx hx hx' ∧ RQ (hx' 56) ∧ q_f2 hm hm' := by
  have w0 := w.1
  obtain ⟨bp1, bp2, bp3, bp4⟩ := id hBP
  intro r
  induction r with
  | zero =>
    intro f1 f2 row c bst hx hm h7
    have := rs_720 c w0
    omega
  | succ r ih =>
    intro f1 f2 row c bst hx hm h7 hrow hf1 hf2 hC hQ hM hG hb
    obtain ⟨g1, rfl⟩ : ∃ g, f1 = g + 1 := ⟨f1 - 1, by omega⟩
    obtain ⟨g2, rfl⟩ : ∃ g, f2 = g + 1 := ⟨f2 - 1, by omega⟩
    have r7 := rs_720 c w0
    -- behind a row: the next one, on both sides
    have step : ∀ (m : Nat) (hx1 hm1 : AH), m ≤ Bd → q_CS hx1 σ 0 lo hi c q_T0 → RQ (hx1 56) → q_MS hm1 σ lo hi c q_T0 → (∀ a, a < σ 0 0 → hx1 53 a = hm1 15 a) → ∃ m' hx' hm', f_X3_dealAnew_90 49 17 (f_X3_dealAnew_37 49 17 g1) (nI A) (nI Bd) (nI m) (nI row) hx1 = some (nI (A + m'), hx') ∧ bd (f_X8_nextCharters 0 hm1) (fun v_3 h_2 => f_X8_anew_70 0 g2 k (nI (A + m)) v_3 h_2) = q_mr k A m' hm' ∧ (∀ a, a < σ 0 0 → hx' 53 a = hm' 15 a) ∧ q_fx hx1 hx' ∧ RQ (hx' 56) ∧ q_f2 hm1 hm' := by
      intro m hx1 hm1 hmB hC1 hQ1 hM1 h53
      unfold f_X3_dealAnew_90
      rcases m_nextC w0 hM1.2.2.2.1 hM1.1.1 with ⟨x1, x2⟩ | ⟨c', hm2, x1, x2, x3, x4⟩
      · rcases x_next w0 (q_CS_w hC1) hC1.1.1 with ⟨y1, y2⟩ | ⟨c2, hx2, y1, y2, y3, y4⟩
        · rw [x2, y2, bd_s, bd_s, lt_s2]
          obtain ⟨e1, rfl⟩ : ∃ g, g1 = g + 1 := ⟨g1 - 1, by omega⟩
          obtain ⟨e2, rfl⟩ : ∃ g, g2 = g + 1 := ⟨g2 - 1, by omega⟩
          rw [f_X8_anew_70, if_pos rfl, f_X3_dealAnew_37, if_pos rfl, ite_self, nI_add]
          exact ⟨m, hx1, hm1, rfl, rfl, h53, fun _ _ => rfl, hQ1, fun _ _ => rfl⟩
        · rw [x1] at y1; exact absurd y1 (by simp)
      · rcases x_next w0 (q_CS_w hC1) hC1.1.1 with ⟨y1, y2⟩ | ⟨c2, hx2, y1, y2, y3, y4⟩
        · rw [x1] at y1; exact absurd y1 (by simp)
        · rw [x1] at y1
          have ec : c' = c2 := Option.some.inj y1
          subst ec
          obtain ⟨z1, z2⟩ := nxt_s x1
          rw [x2, y2, bd_s, bd_s, lt_s2, nI_1]
          obtain ⟨m', hx', hm', r1, r2, r3, r4, r5, r6⟩ := ih g1 g2 (row + 1) c' (some m) hx2 hm2 (by omega) (by omega) (by omega) (by omega) (q_CS_r hC1 y3 y4) (by rw [y3 56 (by decide)]; exact hQ1) (q_MS_r hM1 x3 x4) (fun x => by rw [z1, hG]) (fun m2 e2 => ⟨by rw [← Option.some.inj e2]; exact hmB, fun a ha => by rw [y3 53 (by decide), x3 15 (by decide)]; exact h53 a ha⟩)
          exact ⟨m', hx', hm', r1, r2, r3, fun x hx => by rw [r4 x hx, y3 x (by omega)], r5, fun x hx => by rw [r6 x hx, x3 x (by omega)]⟩
    rw [f_X3_dealAnew_37, f_X8_anew_70, if_neg (show ¬ (720 : Int32) ≤ nI row from nI_ge (b := 720) (by omega) (by decide)), if_neg n10, if_neg n10]
    have hO := x_oracle hC w (by decide) hh
    have put : (∀ m, bst = some m → ¬ Bd ≤ m) → ∃ m' hx' hm', (bd (f_X3_placedFrom 49 0 hx) (fun v_2 h_1 => if v_2 ≤ q_bI bst then (f_X3_dealAnew_90 49 17 (f_X3_dealAnew_37 49 17 g1) (nI A) (nI Bd) (q_bI bst) (nI row) h_1) else (bh (cpy h_1 (49 + 3) 6 0 (49 + 4) 6 0 6) (fun h_5 => f_X3_dealAnew_90 49 17 (f_X3_dealAnew_37 49 17 g1) (nI A) (nI Bd) v_2 (nI row) h_5)))) = some (nI (A + m'), hx') ∧ (bd (f_X8_mostFrom 0 0 hm) (fun v_3 h_2 => if v_3 ≤ q_mI A bst then (bd (f_X8_nextCharters 0 h_2) (fun v_5 h_4 => (f_X8_anew_70 0 g2) k (q_mI A bst) v_5 h_4)) else (f_X8_anew_96 0 (f_X8_anew_70 0 g2) fu k v_3 0 h_2))) = q_mr k A m' hm' ∧ (∀ a, a < σ 0 0 → hx' 53 a = hm' 15 a) ∧ q_fx hx hx' ∧ RQ (hx' 56) ∧ q_f2 hm hm' := by
      intro hlow
      obtain ⟨m1, hx1, p1, p2, p3, p4⟩ := x_placedFrom hO hQ (Nat.zero_le (σ 0 1))
      obtain ⟨n, hm1, n1, n2, n3⟩ := m_mostFrom hM w hl hh (Nat.zero_le (σ 0 1))
      have en := Gr_u n3 (q_two p4 (bp2 c))
      have eb := bp1 c (fun a ha => (hM.2.2.2.1 a ha).1) hG m1 p4
      have hC1 := q_CS_c hC p2
      have hM1 := q_MS_c hM n2
      have fx1 : q_fx hx hx1 := fun x hx => p2.1 x (by omega) (by omega) (by omega) (by omega)
      have fm1 : q_f2 hm hm1 := fun x hx => n2 x (by omega) (by omega) (by omega) (by omega) (by omega)
      rw [show f_X3_placedFrom 49 0 hx = f_X3_placedFrom 49 (nI 0) hx from rfl, p1, bd_s, show f_X8_mostFrom 0 0 hm = f_X8_mostFrom 0 (nI 0) hm from rfl, n1, bd_s]
      have more : (¬ nI m1 ≤ q_bI bst) → (¬ nI n ≤ q_mI A bst) → ∃ m' hx' hm', (if nI m1 ≤ q_bI bst then (f_X3_dealAnew_90 49 17 (f_X3_dealAnew_37 49 17 g1) (nI A) (nI Bd) (q_bI bst) (nI row) hx1) else (bh (cpy hx1 (49 + 3) 6 0 (49 + 4) 6 0 6) (fun h_5 => f_X3_dealAnew_90 49 17 (f_X3_dealAnew_37 49 17 g1) (nI A) (nI Bd) (nI m1) (nI row) h_5))) = some (nI (A + m'), hx') ∧ (if nI n ≤ q_mI A bst then (bd (f_X8_nextCharters 0 hm1) (fun v_5 h_4 => (f_X8_anew_70 0 g2) k (q_mI A bst) v_5 h_4)) else (f_X8_anew_96 0 (f_X8_anew_70 0 g2) fu k (nI n) 0 hm1)) = q_mr k A m' hm' ∧ (∀ a, a < σ 0 0 → hx' 53 a = hm' 15 a) ∧ q_fx hx hx' ∧ RQ (hx' 56) ∧ q_f2 hm hm' := by
        intro q1 q2
        rw [if_neg q1, if_neg q2, show (6 : Int32) = nI 6 from rfl, show (0 : Int32) = nI 0 from rfl, bl_cpy _ _ _ _ _ _ _ _ (by decide) (by decide) (by decide) (by decide), bh_s]
        have k53 : ∀ a, a < 6 → hput hx1 (49 + 4) (va_cpy (hx1 (49 + 3)) (hx1 (49 + 4)) 0 0 6) 53 a = hx1 52 a := fun a ha => by
          rw [show (53 : Nat) = 49 + 4 from rfl, hput_self, pk_cpy_in (by omega) (by omega), Nat.zero_add, Nat.sub_zero]
        have ko : ∀ x, x ≠ 53 → hput hx1 (49 + 4) (va_cpy (hx1 (49 + 3)) (hx1 (49 + 4)) 0 0 6) x = hx1 x := fun x hx => hput_ne _ _ hx
        generalize hput hx1 (49 + 4) (va_cpy (hx1 (49 + 3)) (hx1 (49 + 4)) 0 0 6) = hx2 at k53 ko ⊢
        obtain ⟨hm2, s1, s2, s3⟩ := m_anew96 w (k := k) (x4 := nI n) (K := f_X8_anew_70 0 g2) (σ 0 0) fu 0 hm1 (by omega) (fu_ge _ (by omega)) hM1.1 (fun a' ha' => absurd ha' (Nat.not_lt_zero a'))
        have hM2 : q_MS hm2 σ lo hi c q_T0 := by
          unfold q_MS
          rw [s2 4 (by decide), s2 0 (by decide), s2 14 (by decide), s2 9 (by decide)]
          exact hM1
        have hC2 : q_CS hx2 σ 0 lo hi c q_T0 := by
          unfold q_CS
          rw [ko 49 (by decide), ko 50 (by decide), ko 51 (by decide), ko 52 (by decide), ko 54 (by decide)]
          exact hC1
        obtain ⟨m', hx', hm', t1, t2, t3, t4, t5, t6⟩ := step m1 hx2 hm2 eb hC2 (by rw [ko 56 (by decide)]; exact p3) hM2 (fun a ha => by
          rw [k53 a (by omega), s3 a ha, (q_CS_w hC1 a ha).2, (hM2.2.2.2.1 a ha).2])
        refine ⟨m', hx', hm', t1, ?_, t3, fun x hx => by rw [t4 x hx, ko x (by omega), fx1 x hx], t5, fun x hx => by rw [t6 x hx, s2 x (by omega), fm1 x hx]⟩
        rw [s1, en, Nat.add_comm m1 A]
        exact t2
      cases hbst : bst with
      | none =>
        rw [hbst] at more
        refine more (fun z => ?_) (fun z => ?_)
        · rw [Int32.le_iff_toInt_le, nI_toInt (by omega)] at z
          have : (q_bI none).toInt = -1 := by decide
          omega
        · rw [Int32.le_iff_toInt_le, nI_toInt (by omega)] at z
          have : (q_mI A none).toInt = -1 := by
            show (-1 : Int32).toInt = -1
            decide
          omega
      | some m0 =>
        rw [hbst] at more
        have hb0 := hb m0 hbst
        by_cases q : m1 ≤ m0
        · rw [if_pos (show nI m1 ≤ q_bI (some m0) from nI_le q (by omega)), if_pos (show nI n ≤ q_mI A (some m0) from nI_le (by omega) (by omega))]
          obtain ⟨m', hx', hm', t1, t2, t3, t4, t5, t6⟩ := step m0 hx1 hm1 hb0.1 hC1 p3 hM1 (fun a ha => by
            rw [p2.1 53 (by decide) (by decide) (by decide) (by decide), n2 15 (by decide) (by decide) (by decide) (by decide) (by decide)]; exact hb0.2 a ha)
          exact ⟨m', hx', hm', t1, t2, t3, fun x hx => by rw [t4 x hx, fx1 x hx], t5, fun x hx => by rw [t6 x hx, fm1 x hx]⟩
        · exact more (show ¬ nI m1 ≤ nI m0 from nI_ge (by omega) (by omega)) (show ¬ nI n ≤ nI (A + m0) from nI_ge (by omega) (by omega))
    by_cases q : ∃ m, bst = some m ∧ Bd ≤ m
    · obtain ⟨m, rfl, hmB⟩ := q
      have hb0 := hb m rfl
      rw [if_pos (show nI Bd ≤ q_bI (some m) from nI_le hmB (by omega)), show nI A + q_bI (some m) = nI (A + m) from nI_add _ _]
      obtain ⟨hm', a1, a2, a3⟩ := m_alone (k := k) w hl hh hBP hmB (by omega) (r + 1) (g2 + 1) c hm h7 hf2 hM hG
      rw [f_X8_anew_70, if_neg n10] at a1
      exact ⟨m, hx, hm', rfl, a1, fun a ha => by rw [a2]; exact hb0.2 a ha, fun _ _ => rfl, hQ, a3⟩
    · have hlow : ∀ m, bst = some m → ¬ Bd ≤ m := fun m e z => q ⟨m, e, z⟩
      have nle : ¬ nI Bd ≤ q_bI bst := by
        cases hbst : bst with
        | none =>
          intro z
          rw [Int32.le_iff_toInt_le, nI_toInt (by omega)] at z
          have : (q_bI none).toInt = -1 := by decide
          omega
        | some m0 =>
          have hb0 := hb m0 hbst
          exact nI_ge (by have := hlow m0 hbst; omega) (by omega)
      rw [if_neg nle]
      exact put hlow
theorem ok_anew (a0 a1 a2 : Int32) : OK2 Rel (fun h => f_X7_anew 0 a0 a1 a2 h) (fun h => f_X8_anew 0 a0 a1 a2 h) := by
  intro hx hm hR
  show ∃ r hx2 hm2, f_X7_anew 0 a0 a1 a2 hx = some (r, hx2) ∧ f_X8_anew 0 a0 a1 a2 hm = some (r, hm2) ∧ Rel hx2 hm2
  have hR1 := rel_thrown hR
  unfold f_X7_anew f_X8_anew
  rw [lt_s2]
  generalize hset hm 0 0 0 = hm1 at hR1 ⊢
  obtain ⟨σ, w, hC, hM, h7, -⟩ := hR1.2.2.2.1
  have hQ := hR1.2.2.2.2.2.2.2.2
  have hC : CQ hx 17 σ := hC
  have w0 := w.1
  have w1 := w.2.1
  have w4 := w.2.2.2.1
  rw [Nat.zero_add, Nat.zero_add, show hx 17 0 = nI (σ 0 4) from hC.1, h7]
  rcases (show σ 0 4 = 0 ∨ σ 0 4 = 1 by omega) with h4 | h4
  · rw [h4, if_n0, if_n0]
    exact ⟨_, _, _, rfl, rfl, hR1⟩
  rw [h4, if_n1, if_n1]
  rcases q_hours a0 a1 hx hm1 with ⟨e1, e2⟩ | ⟨lo, hi, hl, hh, rfl, rfl, e1, e2⟩
  · rw [e1, e2, bd_s, bd_s, if_pos rfl, if_pos rfl]
    exact ⟨_, _, _, rfl, rfl, hR1⟩
  rw [e1, e2, bd_s, bd_s, if_neg n10, if_neg n10, ck0_100, cl_0, Nat.zero_add, hM.1, m_inK _ (by omega), bd_s, show hx 17 1 = nI (σ 0 0) from hC.2.1]
  by_cases c1 : a2 < -1
  · rw [if_pos c1, if_pos c1, if_pos rfl]
    exact ⟨_, _, _, rfl, rfl, hR1⟩
  rw [if_neg c1, if_neg c1]
  by_cases c2 : a2 < nI (σ 0 0)
  case neg =>
    rw [if_neg c2, if_neg c2, if_pos rfl]
    exact ⟨_, _, _, rfl, rfl, hR1⟩
  rw [if_pos c2, if_pos c2, if_neg n10, lt_s2, lt_s2]
  have hM2 : MR (hset (hset hm1 0 26 (nI lo)) 0 27 (nI hi) 4) σ := by rw [hs_cell _ _ _ _ _ (by decide), hs_cell _ _ _ _ _ (by decide)]; exact hM
  have k26 : hset (hset hm1 0 26 (nI lo)) 0 27 (nI hi) 0 26 = nI lo := by rw [hs_place _ _ _ _ _ (by decide), hs_self]
  have k27 : hset (hset hm1 0 26 (nI lo)) 0 27 (nI hi) 0 27 = nI hi := hs_self _ _ _ _
  have ko : ∀ c, c ≠ 0 → hset (hset hm1 0 26 (nI lo)) 0 27 (nI hi) c = hm1 c := fun c hc => by rw [hs_cell _ _ _ _ _ hc, hs_cell _ _ _ _ _ hc]
  have k0 : ∀ k, k ≠ 26 → k ≠ 27 → hset (hset hm1 0 26 (nI lo)) 0 27 (nI hi) 0 k = hm1 0 k := fun k n1 n2 => by rw [hs_place _ _ _ _ _ n2, hs_place _ _ _ _ _ n1]
  generalize hset (hset hm1 0 26 (nI lo)) 0 27 (nI hi) = hm2 at hM2 k26 k27 ko k0 ⊢
  obtain ⟨hm3, t1, t2, t3⟩ := m_none hm2
  obtain ⟨cm, hm4, l1, l2, l3, l4, l5⟩ := m_sort w (h := hm3) (by rw [t2 4 (by decide)]; exact hM2)
  rw [t1, bd_s, l1, bd_s]
  -- the other side
  obtain ⟨A, hx1, g1, g2, g3, g4, g5⟩ := x_greatestOf (d := 1) (ch := fun a => σ 2 a) hC w (by decide) hl hh (fun _ _ _ => rfl) hQ
  obtain ⟨hx2, p1, p2, p3⟩ := x_prepare (d := 0) (ch := fun a => σ 2 a) (h := hx1) (q_CQ_c hC (fun c a1 a2 => g2 c (by omega))) w (by decide) hl hh (fun _ _ _ => rfl)
  obtain ⟨Bd, b1, b2, b3⟩ := x_hope p3 w hh
  obtain ⟨cx, hx3, s1, s2, s3, s4, s5⟩ := x_sort w0 (q_CS_w p3) p3.1.1
  have ecx : ∀ a, a < σ 0 0 → cm a = cx a := fun a ha => srd_u l5 s5 (fun x => by rw [l4, s4]) ha
  have hM4 : q_MS hm4 σ lo hi cx q_T0 := by
    unfold q_MS
    rw [l3 4 (by decide), l3 0 (by decide), l3 9 (by decide), t2 4 (by decide), t2 0 (by decide)]
    exact ⟨hM2, k26, k27, fun a ha => by rw [← ecx a ha]; exact l2 a ha, fun p hp => t3 p hp⟩
  have hC3 : q_CS hx3 σ 0 lo hi cx q_T0 := q_CS_r p3 s3 s2
  have hBP : q_BP σ lo hi (fun a => σ 2 a) A Bd := ⟨fun c a1 a2 m hm => b3 c a1 a2 _ m hm, fun c => q_E1 g5, b2, Gr_le g5⟩
  have fr : ∀ (hx' hm' : AH), q_fx hx3 hx' → RQ (hx' 56) → q_f2 hm4 hm' → Rel hx' hm' := fun hx' hm' f1 f2 f3 => by
    refine rel_fore hR1 (fun c hc => ?_) (fun c c0 hc => ?_) (fun k k1 k2 k3 => ?_) f2
    · rw [f1 c hc, s3 c (by omega), p2 c (by omega) (by omega) (by omega) (by omega) (by omega), g2 c hc]
    · rw [f3 c hc, l3 c (by omega), t2 c (by omega), ko c c0]
    · rw [f3 0 (by omega), l3 0 (by decide), t2 0 (by decide), k0 k k2 k3]
  have r7 := rs_720 cx w0
  obtain ⟨m, hx', hm', r1, r2, r3, r4, r5, r6⟩ := q_anew (k := a2) w (by omega) hh hBP 720 fu fu 0 cx none hx3 hm4 (by omega) (Nat.zero_le _) (fu_ge _ (by decide)) (fu_ge _ (by decide)) hC3 (by rw [s3 56 (by decide), p2 56 (by decide) (by decide) (by decide) (by decide) (by decide)]; exact g3) hM4 (fun x => s4 x) (fun m e => by cases e)
  have hd : f_X3_dealAnew 49 17 (nI lo) (nI hi) hx = some (nI (A + m), hx') := by
    unfold f_X3_dealAnew
    rw [show f_X3_greatestOf 49 17 1 (nI lo) (nI hi) hx = f_X3_greatestOf 49 17 (nI 1) (nI lo) (nI hi) hx from rfl, g1, bd_s, show f_X3_prepare 49 17 0 (nI lo) (nI hi) hx1 = f_X3_prepare 49 17 (nI 0) (nI lo) (nI hi) hx1 from rfl, p1, bd_s, b1, bd_s, s1, bd_s]
    exact r1
  rw [show f_X8_anew_70 0 fu a2 (-1) 1 hm4 = f_X8_anew_70 0 fu a2 (q_mI A none) 1 hm4 from rfl, r2, show f_X3_dealAnew (0 + 49) 17 (nI lo) (nI hi) hx = f_X3_dealAnew 49 17 (nI lo) (nI hi) hx from rfl, hd, bd_s]
  unfold q_mr
  by_cases c3 : (0 : Int32) ≤ a2
  · rw [if_pos c3, if_pos c3]
    obtain ⟨k, hk2, rfl⟩ := nI_of (x := a2) (fun z => by
      rw [Int32.lt_iff_toInt_lt] at z
      rw [Int32.le_iff_toInt_le] at c3
      omega)
    have hk : k < σ 0 0 := (nI_ltI hk2 (by omega)).mp c2
    unfold f_X3_dealtTo
    rw [ck_nI _ (by omega) (by decide), ck_nI _ (by omega) (by decide), cl_nI hk2, bd_s, show hx' (0 + 49 + 4) k = hx' 53 k from rfl, r3 k hk]
    exact ⟨_, hx', hm', rfl, rfl, fr _ _ r4 r5 r6⟩
  · rw [if_neg c3, if_neg c3]
    exact ⟨_, hx', hm', rfl, rfl, fr _ _ r4 r5 r6⟩
