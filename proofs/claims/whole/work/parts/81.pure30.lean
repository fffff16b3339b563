/-! ===== the first place with which as many still go by ===== -/
def q_add (T : Nat → Bool) (p : Nat) : Nat → Bool := fun x => T x || decide (x = p)
theorem q_add_f {T : Nat → Bool} {p x : Nat} : q_add T p x = false ↔ T x = false ∧ x ≠ p := by
  unfold q_add
  cases T x <;> simp
theorem q_add_t {T : Nat → Bool} {p x : Nat} : q_add T p x = true ↔ T x = true ∨ x = p := by
  unfold q_add
  cases T x <;> simp
def q_gm (σ : Sg) (lo hi : Nat) (ch : Nat → Nat) (T : Nat → Bool) (b n p : Nat) : Prop := q_ET σ lo hi ch T b p ∧ ∃ c, Gr (q_ET σ lo hi ch (q_add T p)) (b + 1) (σ 0 1) c ∧ c + 1 = n
def q_gx (σ : Sg) (lo hi : Nat) (ch : Nat → Nat) (d : Nat) (T : Nat → Bool) (b n p : Nat) : Prop := q_F (q_Ed σ lo hi ch d) T b p ∧ ∃ c, Gr (q_F (q_Ed σ lo hi ch d) (q_add T p)) (b + 1) (σ 0 1) c ∧ c + 1 = n
def q_fm (h h' : AH) : Prop := ∀ c, (c < 8 ∨ 13 < c) → h' c = h c
theorem m_first16 {σ : Sg} {lo hi : Nat} {ch : Nat → Nat} {T : Nat → Bool} {h0 : AH} (w : WFs σ) (hl : lo ≤ 11) (hh : hi ≤ 11) {b n : Nat} (hb : b < σ 0 1) (hg : σ 10 b = 0) (hn : n ≤ 6) : ∀ (r fuel k : Nat) (h : AH), k + r = 72 → r < fuel → q_fm h0 h → q_MS h σ lo hi ch T → (∀ j, j < k → ¬ q_gm σ lo hi ch T b n (72 * sd σ b + j)) → (∃ k' h', k' < 72 ∧ f_X8_firstOf_16 0 fuel (nI b) (nI n) (nI k) h = some (nI k', h') ∧ q_fm h0 h' ∧ q_MS h' σ lo hi ch (q_add T (72 * sd σ b + k')) ∧ q_gm σ lo hi ch T b n (72 * sd σ b + k') ∧ ∀ j, j < k' → ¬ q_gm σ lo hi ch T b n (72 * sd σ b + j)) ∨ (∃ h', f_X8_firstOf_16 0 fuel (nI b) (nI n) (nI k) h = some (-1000000, h') ∧ q_fm h0 h' ∧ q_MS h' σ lo hi ch T ∧ ∀ j, j < 72 → ¬ q_gm σ lo hi ch T b n (72 * sd σ b + j)) := by
  have hsd := sd_lt σ b
  have w1 := w.2.1
  intro r
  induction r with
  | zero =>
    intro fuel k h hk hf hF hS hj
    obtain ⟨m, rfl⟩ : ∃ m, fuel = m + 1 := ⟨fuel - 1, by omega⟩
    rw [f_X8_firstOf_16, if_pos (show (72 : Int32) ≤ nI k from nI_le (a := 72) (by omega) (by omega))]
    exact Or.inr ⟨h, rfl, hF, hS, fun j hj' => hj j (by omega)⟩
  | succ r ih =>
    intro fuel k h hk hf hF hS hj
    obtain ⟨m, rfl⟩ : ∃ m, fuel = m + 1 := ⟨fuel - 1, by omega⟩
    have ep : 72 * nI (sd σ b) + nI k = nI (72 * sd σ b + k) := by rw [L72, pk_mul, nI_add]
    rw [f_X8_firstOf_16, if_neg (show ¬ (72 : Int32) ≤ nI k from nI_ge (b := 72) (by omega) (by decide)), m_sideOf hS.1 w hb, bd_s, lt_s2, ep]
    have more : ∀ h2, q_fm h0 h2 → q_MS h2 σ lo hi ch T → ¬ q_gm σ lo hi ch T b n (72 * sd σ b + k) → (∃ k' h', k' < 72 ∧ f_X8_firstOf_16 0 m (nI b) (nI n) (nI (k + 1)) h2 = some (nI k', h') ∧ q_fm h0 h' ∧ q_MS h' σ lo hi ch (q_add T (72 * sd σ b + k')) ∧ q_gm σ lo hi ch T b n (72 * sd σ b + k') ∧ ∀ j, j < k' → ¬ q_gm σ lo hi ch T b n (72 * sd σ b + j)) ∨ (∃ h', f_X8_firstOf_16 0 m (nI b) (nI n) (nI (k + 1)) h2 = some (-1000000, h') ∧ q_fm h0 h' ∧ q_MS h' σ lo hi ch T ∧ ∀ j, j < 72 → ¬ q_gm σ lo hi ch T b n (72 * sd σ b + j)) := fun h2 hF2 hS2 hng => ih m (k + 1) h2 (by omega) (by omega) hF2 hS2 (fun j hj' => by
      by_cases c : j = k
      · rw [c]; exact hng
      · exact hj j (by omega))
    by_cases n0 : n = 0
    · subst n0
      rw [if_pos (show nI 0 ≤ 0 by decide), lt_s2, nI_1]
      exact more h hF hS (fun z => by obtain ⟨-, c, -, c2⟩ := z; omega)
    rw [if_neg (nI_nle (by omega) (by omega))]
    have hp : 72 * sd σ b + k < 144 := by omega
    obtain ⟨v, v1, v2, v3⟩ := m_canBe hS w hl hh hb hg hp
    rw [v2, bd_s]
    rcases v1 with rfl | rfl
    · rw [if_n0, lt_s2, nI_1]
      exact more h hF hS (fun z => absurd (v3.mpr z.1) (by decide))
    have hE := v3.mp rfl
    rw [if_n1, ck_nI _ hp (by decide), cl_nI (by omega), lt_s2, vb_1, Nat.zero_add, nI_1]
    obtain ⟨s1, s2, s3, s4, s5⟩ := id hS
    have hS2 : q_MS (hset h 9 (72 * sd σ b + k) 1) σ lo hi ch (q_add T (72 * sd σ b + k)) := by
      unfold q_MS
      rw [hs_cell _ _ _ _ 4 (by decide), hs_cell _ _ _ _ 0 (by decide), hs_cell _ _ _ _ 14 (by decide), hs_row]
      refine ⟨s1, s2, s3, s4, fun p hp2 => ?_⟩
      rw [upd_lit]
      by_cases c : p = 72 * sd σ b + k
      · rw [if_pos c, if_pos (q_add_t.mpr (Or.inr c))]
      · rw [if_neg c, s5 p hp2]
        by_cases c2 : T p = true
        · rw [if_pos c2, if_pos (q_add_t.mpr (Or.inl c2))]
        · rw [if_neg c2, if_neg (fun z => (q_add_t.mp z).elim c2 c)]
    obtain ⟨c, h', r1, r2, r3⟩ := m_mostFrom hS2 w hl hh (b := b + 1) (by omega)
    rw [r1, bd_s]
    have hS3 := q_MS_c hS2 r2
    have c6 := Gr_le r3
    have hF3 : q_fm h0 h' := fun c hc => by rw [r2 c (by omega) (by omega) (by omega) (by omega) (by omega), hs_cell _ _ _ _ _ (by omega)]; exact hF c hc
    have e1 : nI n - 1 = nI (n - 1) := by
      obtain ⟨q, rfl⟩ : ∃ q, n = q + 1 := ⟨n - 1, by omega⟩
      rw [nI_pred]; rfl
    rw [e1]
    by_cases hc : c + 1 = n
    · rw [if_pos (by rw [show n - 1 = c by omega])]
      exact Or.inl ⟨k, h', by omega, rfl, hF3, hS3, ⟨hE, c, r3, hc⟩, hj⟩
    · rw [if_neg (fun z => hc (by have := (nI_eq (by omega) (by omega)).mp z; omega)), ck_nI _ hp (by decide), lt_s2, lt_s2, nI_1, vb_0]
      refine more _ (fun c2 hc2 => by rw [hs_cell _ _ _ _ _ (by omega)]; exact hF3 c2 hc2) ?_ (fun z => ?_)
      · obtain ⟨t1, t2, t3, t4, t5⟩ := hS3
        unfold q_MS
        rw [hs_cell _ _ _ _ 4 (by decide), hs_cell _ _ _ _ 0 (by decide), hs_cell _ _ _ _ 14 (by decide), hs_row]
        refine ⟨t1, t2, t3, t4, fun p hp2 => ?_⟩
        rw [upd_lit]
        by_cases c : p = 72 * sd σ b + k
        · rw [if_pos c, c, hE.2]; rfl
        · rw [if_neg c, t5 p hp2]
          by_cases c2 : T p = true
          · rw [if_pos c2, if_pos (q_add_t.mpr (Or.inl c2))]
          · rw [if_neg c2, if_neg (fun z => (q_add_t.mp z).elim c2 c)]
      · obtain ⟨-, c', z1, z2⟩ := z
        have := Gr_u z1 r3
        omega
theorem m_firstOf {σ : Sg} {lo hi : Nat} {ch : Nat → Nat} {T : Nat → Bool} {h : AH} (hS : q_MS h σ lo hi ch T) (w : WFs σ) (hl : lo ≤ 11) (hh : hi ≤ 11) {b n : Nat} (hb : b < σ 0 1) (hn : n ≤ 6) : (∃ k' h', k' < 72 ∧ f_X8_firstOf 0 (nI b) (nI n) h = some (nI k', h') ∧ q_fm h h' ∧ q_MS h' σ lo hi ch (q_add T (72 * sd σ b + k')) ∧ q_gm σ lo hi ch T b n (72 * sd σ b + k') ∧ ∀ j, j < k' → ¬ q_gm σ lo hi ch T b n (72 * sd σ b + j)) ∨ (∃ h', f_X8_firstOf 0 (nI b) (nI n) h = some (-1000000, h') ∧ q_fm h h' ∧ q_MS h' σ lo hi ch T ∧ ∀ j, j < 72 → ¬ q_gm σ lo hi ch T b n (72 * sd σ b + j)) := by
  have w1 := w.2.1
  unfold f_X8_firstOf
  rw [show (6 : Int32) = nI 6 from rfl, m_of h (by omega) (by decide), bd_s, (hS.1.2.2.2.2.2.2 b hb).2.2.2]
  have g10 := (wf_b w hb).2.2.2.2
  rcases (show σ 10 b = 0 ∨ σ 10 b = 1 by omega) with q | q
  · rw [q, if_neg (show ¬ nI 0 = 1 by decide), show (0 : Int32) = nI 0 from rfl]
    exact m_first16 w hl hh hb q hn 72 fu 0 h (by decide) (fu_ge _ (by decide)) (fun _ _ => rfl) hS (fun j hj => absurd hj (Nat.not_lt_zero j))
  · rw [q, if_pos (show nI 1 = 1 from rfl)]
    refine Or.inr ⟨h, rfl, fun _ _ => rfl, hS, fun j hj z => ?_⟩
    have := z.1.1.1.2
    omega
def q_fx (h h' : AH) : Prop := ∀ c, (c < 49 ∨ 57 < c) → h' c = h c
def q_XS (σ : Sg) (lo hi : Nat) (ch : Nat → Nat) (d : Nat) (T : Nat → Bool) (b n : Nat) (h0 : AH) (res : Option (Int32 × AH)) : Prop := (∃ k' h', k' < 72 ∧ res = some (nI k', h') ∧ q_fx h0 h' ∧ RQ (h' 56) ∧ q_CS h' σ d lo hi ch (q_add T (72 * d + k')) ∧ q_gx σ lo hi ch d T b n (72 * d + k') ∧ ∀ j, j < k' → ¬ q_gx σ lo hi ch d T b n (72 * d + j)) ∨ (∃ h', res = some (-1000000, h') ∧ q_fx h0 h' ∧ RQ (h' 56) ∧ q_CS h' σ d lo hi ch T ∧ ∀ j, j < 72 → ¬ q_gx σ lo hi ch d T b n (72 * d + j))
theorem x_settle13 {σ : Sg} {lo hi d : Nat} {ch : Nat → Nat} {T : Nat → Bool} {h0 : AH} (w : WFs σ) (hd : d < 2) (hh : hi ≤ 11) {b n t : Nat} (hb : b < σ 0 1) (hn : n ≤ 6) (ht : t < 12) {K : Int32 → Int32 → Int32 → Int32 → AH → Option (Int32 × AH)}
    (hK : ∀ h, q_fx h0 h → RQ (h 56) → q_CS h σ d lo hi ch T → (∀ j, j < 6 * (t + 1) → ¬ q_gx σ lo hi ch d T b n (72 * d + j)) → q_XS σ lo hi ch d T b n h0 (K (nI b) (nI n) (nI hi) (nI (t + 1)) h)) : ∀ (r fuel a : Nat) (h : AH), a + r = σ 0 0 → r < fuel → q_fx h0 h → RQ (h 56) → q_CS h σ d lo hi ch T → (∀ j, j < 6 * t + a → ¬ q_gx σ lo hi ch d T b n (72 * d + j)) → q_XS σ lo hi ch d T b n h0 (f_X3_settleFirst_13 49 K fuel (nI b) (nI n) (nI hi) (nI t) (nI a) h) := by
  have w0 := w.1
  have w1 := w.2.1
  intro r
  induction r with
  | zero =>
    intro fuel a h ha hf hF hQ hS hj
    obtain ⟨m, rfl⟩ : ∃ m, fuel = m + 1 := ⟨fuel - 1, by omega⟩
    rw [f_X3_settleFirst_13, hS.1.1, if_pos (nI_le (by omega) (by omega)), lt_s2, nI_1]
    refine hK h hF hQ hS (fun j hj' z => ?_)
    by_cases c : j < 6 * t + a
    · exact hj j c z
    · have := z.1.1.2.2.2.2.2.1
      omega
  | succ r ih =>
    intro fuel a h ha hf hF hQ hS hj
    obtain ⟨m, rfl⟩ : ∃ m, fuel = m + 1 := ⟨fuel - 1, by omega⟩
    have han : a < σ 0 0 := by omega
    have ha6 : a < 6 := by omega
    obtain ⟨o1, -, -, o4, o5⟩ := x_oracle hS w hd hh
    obtain ⟨x, x1, x2⟩ := o1 h ⟨fun _ _ _ _ _ => rfl, fun _ _ => rfl⟩ b a (by omega) ha6
    have x3 := x2 hb han t (by omega)
    have o5' := o5 a han t ht
    rw [f_X3_settleFirst_13, hS.1.1, if_neg (nI_ge (by omega) (by omega)), lt_s2, x1, bd_s, ck_nI _ ha6 (by decide), cl_nI (by omega), show h (49 + 5) a = h 54 a from rfl]
    have bone := bt_one t ht
    generalize (1 : Int32) <<< (nI t &&& 31) = u at bone ⊢
    have more : ∀ h2, q_fx h0 h2 → RQ (h2 56) → q_CS h2 σ d lo hi ch T → ¬ q_gx σ lo hi ch d T b n (72 * d + (6 * t + a)) → q_XS σ lo hi ch d T b n h0 (f_X3_settleFirst_13 49 K m (nI b) (nI n) (nI hi) (nI t) (nI (a + 1)) h2) := fun h2 hF2 hQ2 hS2 hng => ih m (a + 1) h2 (by omega) (by omega) hF2 hQ2 hS2 (fun j hj' => by
      by_cases c : j = 6 * t + a
      · rw [c]; exact hng
      · exact hj j (by omega))
    have ep : 72 * d + (6 * t + a) = 72 * d + 6 * t + a := by omega
    by_cases hz : ((x &&& (h 54 a ^^^ (-1))) &&& u) = 0
    · rw [if_pos hz, lt_s2, nI_1]
      refine more h hF hQ hS (fun z => ?_)
      rw [ep] at z
      have hx := x3.mpr ⟨ht, z.1.1⟩
      have hw := bt_z.mp hz t (by omega)
      rw [bt_and, bt_and, hx, bt_not _ (by omega), bone t (by omega), decide_eq_true rfl] at hw
      have hw2 : bt (h 54 a) t = true := by simpa using hw
      have := o5'.mp hw2
      rw [z.1.2] at this
      exact absurd this (by decide)
    · rw [if_neg hz, ck_nI _ ha6 (by decide), ck_nI _ ha6 (by decide), lt_s2, nI_1]
      obtain ⟨i, i1, i2⟩ := bt_nz hz
      rw [bt_and, bt_and, bt_not _ i1, bone i i1] at i2
      have i3 : (bt x i = true ∧ bt (h 54 a) i = false) ∧ i = t := by simpa using i2
      obtain ⟨⟨i4, i5⟩, rfl⟩ := i3
      have hT : T (72 * d + 6 * i + a) = false := by
        cases q : T (72 * d + 6 * i + a) with
        | false => rfl
        | true => rw [o5'.mpr q] at i5; exact absurd i5 (by decide)
      have hE : q_F (q_Ed σ lo hi ch d) T b (72 * d + 6 * i + a) := ⟨(x3.mp i4).2, hT⟩
      generalize hpp : 72 * d + 6 * i + a = p at hE hT
      have k54 : hset h (49 + 5) a (h 54 a ||| u) 54 = upd (h 54) a (h 54 a ||| u) := hs_row _ _ _ _
      have ko : ∀ c, c ≠ 54 → hset h (49 + 5) a (h 54 a ||| u) c = h c := fun c hc => hs_cell _ _ _ _ _ hc
      generalize hset h (49 + 5) a (h 54 a ||| u) = g at k54 ko ⊢
      have hS2 : q_CS g σ d lo hi ch (q_add T p) := by
        obtain ⟨s1, s2, s3, s4⟩ := hS
        unfold q_CS
        rw [ko 49 (by decide), ko 50 (by decide), ko 51 (by decide), ko 52 (by decide), k54]
        refine ⟨s1, s2, s3, fun a' ha' t' ht' => ?_⟩
        rw [upd_lit, q_add_t]
        by_cases c : a' = a
        · rw [if_pos c, bt_or, bone t' (by omega), c]
          by_cases c2 : t' = i
          · rw [decide_eq_true c2, Bool.or_true, c2]
            exact ⟨fun _ => Or.inr hpp, fun _ => rfl⟩
          · rw [decide_eq_false c2, Bool.or_false, s4 a han t' ht']
            exact ⟨Or.inl, fun z => z.elim id (fun y => absurd y (by omega))⟩
        · rw [if_neg c, s4 a' ha' t' ht']
          exact ⟨Or.inl, fun z => z.elim id (fun y => absurd y (by omega))⟩
      obtain ⟨c, h', r1, r2, r3, r4⟩ := x_placedFrom (x_oracle hS2 w hd hh) (by rw [ko 56 (by decide)]; exact hQ) (lo := b + 1) (by omega)
      rw [r1, bd_s]
      have hS3 := q_CS_c hS2 r2
      have c6 := Gr_le r4
      have hF3 : q_fx h0 h' := fun c hc => by rw [r2.1 c (by omega) (by omega) (by omega) (by omega), ko c (by omega)]; exact hF c hc
      have ec : (nI c = nI n - 1) ↔ c + 1 = n := by
        by_cases n0 : n = 0
        · subst n0
          refine ⟨fun z => absurd (z.trans (show nI 0 - 1 = -1 by decide)) (m1_ne (by omega)), fun z => by omega⟩
        · obtain ⟨q, rfl⟩ : ∃ q, n = q + 1 := ⟨n - 1, by omega⟩
          rw [nI_pred, nI_eq (by omega) (by omega)]
          omega
      by_cases hc : c + 1 = n
      · rw [if_pos (ec.mpr hc), show (6 : Int32) = nI 6 from rfl, pk_mul, nI_add]
        refine Or.inl ⟨6 * i + a, h', by omega, rfl, hF3, r3, ?_, ?_, hj⟩
        · rw [ep, hpp]; exact hS3
        · rw [ep, hpp]; exact ⟨hE, c, r4, hc⟩
      · rw [if_neg (fun z => hc (ec.mp z)), ck_nI _ ha6 (by decide), ck_nI _ ha6 (by decide), lt_s2, lt_s2, nI_1]
        refine more _ (fun c2 hc2 => by rw [hs_cell _ _ _ _ _ (by omega)]; exact hF3 c2 hc2) (by rw [hs_cell _ _ _ _ _ (by decide)]; exact r3) ?_ (fun z => ?_)
        · obtain ⟨s1, s2, s3, s4⟩ := hS3
          unfold q_CS
          rw [hs_cell _ _ _ _ 49 (by decide), hs_cell _ _ _ _ 50 (by decide), hs_cell _ _ _ _ 51 (by decide), hs_cell _ _ _ _ 52 (by decide), show hset h' (49 + 5) a (h' (49 + 5) a &&& (u ^^^ (-1))) 54 = upd (h' 54) a (h' 54 a &&& (u ^^^ (-1))) from hs_row _ _ _ _]
          refine ⟨s1, s2, s3, fun a' ha' t' ht' => ?_⟩
          rw [upd_lit]
          have old := s4 a' ha' t' ht'
          rw [q_add_t] at old
          by_cases c : a' = a
          · rw [if_pos c, bt_and, bt_not _ (by omega), bone t' (by omega), ← c]
            by_cases c2 : t' = i
            · rw [decide_eq_true c2, c, c2, hpp, hT]
              simp
            · rw [decide_eq_false c2, Bool.not_false, Bool.and_true, old]
              exact ⟨fun z => z.elim id (fun y => absurd y (by omega)), Or.inl⟩
          · rw [if_neg c, old]
            exact ⟨fun z => z.elim id (fun y => absurd y (by omega)), Or.inl⟩
        · rw [ep, hpp] at z
          obtain ⟨-, c', z1, z2⟩ := z
          have := Gr_u z1 r4
          omega
theorem x_settle3 {σ : Sg} {lo hi d : Nat} {ch : Nat → Nat} {T : Nat → Bool} {h0 : AH} (w : WFs σ) (hd : d < 2) (hh : hi ≤ 11) {b n : Nat} (hb : b < σ 0 1) (hn : n ≤ 6) : ∀ (r fuel t : Nat) (h : AH), t + r = hi + 1 → r < fuel → q_fx h0 h → RQ (h 56) → q_CS h σ d lo hi ch T → (∀ j, j < 6 * t → ¬ q_gx σ lo hi ch d T b n (72 * d + j)) → q_XS σ lo hi ch d T b n h0 (f_X3_settleFirst_3 49 fuel (nI b) (nI n) (nI hi) (nI t) h) := by
  have w0 := w.1
  intro r
  induction r with
  | zero =>
    intro fuel t h ht hf hF hQ hS hj
    obtain ⟨m, rfl⟩ : ∃ m, fuel = m + 1 := ⟨fuel - 1, by omega⟩
    rw [f_X3_settleFirst_3, if_pos (nI_lt (by omega) (by omega))]
    refine Or.inr ⟨h, rfl, hF, hQ, hS, fun j hj' z => ?_⟩
    by_cases c : j < 6 * t
    · exact hj j c z
    · have := z.1.1.2.2.2.2.1.2
      omega
  | succ r ih =>
    intro fuel t h ht hf hF hQ hS hj
    obtain ⟨m, rfl⟩ : ∃ m, fuel = m + 1 := ⟨fuel - 1, by omega⟩
    rw [f_X3_settleFirst_3, if_neg (nI_nlt (by omega) (by omega)), show (0 : Int32) = nI 0 from rfl]
    exact x_settle13 w hd hh hb hn (by omega) (fun h2 hF2 hQ2 hS2 hj2 => ih m (t + 1) h2 (by omega) (by omega) hF2 hQ2 hS2 hj2) (σ 0 0) fu 0 h (by omega) (fu_ge _ (by omega)) hF hQ hS (fun j hj' => hj j (by omega))
theorem x_settle {σ : Sg} {lo hi d : Nat} {ch : Nat → Nat} {T : Nat → Bool} {h : AH} (hS : q_CS h σ d lo hi ch T) (hQ : RQ (h 56)) (w : WFs σ) (hd : d < 2) (hl : lo ≤ hi) (hh : hi ≤ 11) {b n : Nat} (hb : b < σ 0 1) (hn : n ≤ 6) : q_XS σ lo hi ch d T b n h (f_X3_settleFirst 49 (nI b) (nI n) (nI lo) (nI hi) h) := by
  unfold f_X3_settleFirst
  refine x_settle3 w hd hh hb hn (hi + 1 - lo) fu lo h (by omega) (fu_ge _ (by omega)) (fun _ _ => rfl) hQ hS (fun j hj z => ?_)
  have := z.1.1.2.2.2.2.1.1
  omega
