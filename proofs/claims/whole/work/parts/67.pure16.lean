-- weighed
def wt (σ : Sg) (b : Nat) : Nat := 0 + σ 9 (4 * b) * 3 + σ 9 (4 * b + 1) * 5 + σ 9 (4 * b + 2) * 7 + σ 9 (4 * b + 3) * 11
def WT (t : Nat) : Nat := if t = 0 then 3 else if t = 1 then 5 else if t = 2 then 7 else 11
def fd (σ : Sg) (it : Nat → Nat) (b : Nat) : Nat := if wt σ b = al σ b * WT (it b) then 0 else 1
theorem fd_01 (σ : Sg) (it : Nat → Nat) (b : Nat) : fd σ it b = 0 ∨ fd σ it b = 1 := by unfold fd; split; exact Or.inl rfl; exact Or.inr rfl
theorem stv0 {t : Nat} (h : t < 4) : (stv 0).getD t 0 = nI (WT t) := by
  rcases (show t = 0 ∨ t = 1 ∨ t = 2 ∨ t = 3 by omega) with rfl | rfl | rfl | rfl <;> rfl
theorem m_weightOf {t : Nat} (h : t < 4) (g : AH) : f_X8_weightOf (nI t) g = some (nI (WT t), g) := by
  rcases (show t = 0 ∨ t = 1 ∨ t = 2 ∨ t = 3 by omega) with rfl | rfl | rfl | rfl <;> rfl
theorem x_wStep {h : AH} {σ : Sg} (hC : CQ h 17 σ) {b t s n : Nat} (hb : b < σ 0 1) (h6 : σ 0 1 ≤ 6) (ht : t < 4) : f_X2_weightOf_4 17 (n + 1) (nI b) (nI s) (nI t) h = f_X2_weightOf_4 17 n (nI b) (nI (s + σ 9 (4 * b + t) * WT t)) (nI (t + 1)) h := by
  rw [f_X2_weightOf_4, if_neg (show ¬ (4 : Int32) ≤ nI t from nI_ge (b := 4) ht (by decide)), ld_x hC hb h6 ht, bd_s, ck_nI _ ht (by decide), cl_nI (by omega), stv0 ht, pk_mul, nI_add, lt_s2, lt_s2, nI_1]
theorem x_weightOf {h : AH} {σ : Sg} (hC : CQ h 17 σ) (w : WFs σ) {b : Nat} (hb : b < σ 0 1) : f_X2_weightOf 17 (nI b) h = some (nI (wt σ b), h) := by
  have h6 := w.2.1
  obtain ⟨k, hk⟩ := fu_s 5 (by decide)
  unfold f_X2_weightOf
  rw [hk, show k + 5 = k + 1 + 1 + 1 + 1 + 1 from rfl, show (0 : Int32) = nI 0 from rfl, x_wStep hC hb h6 (by decide), x_wStep hC hb h6 (by decide), x_wStep hC hb h6 (by decide), x_wStep hC hb h6 (by decide), f_X2_weightOf_4, if_pos (show (4 : Int32) ≤ nI (0 + 1 + 1 + 1 + 1) from by decide)]
  rfl
theorem m_wStep {h : AH} {σ : Sg} (hM : MR (h 4) σ) {b t s n : Nat} (hb : b < σ 0 1) (h6 : σ 0 1 ≤ 6) (ht : t < 4) (K : Int32 → Int32 → Int32 → Int32 → AH → Option (Int32 × AH)) (x1 x2 x3 : Int32) : f_X8_weighed_138 0 K (n + 1) x1 x2 x3 (nI b) (nI s) (nI t) h = f_X8_weighed_138 0 K n x1 x2 x3 (nI b) (nI (s + σ 9 (4 * b + t) * WT t)) (nI (t + 1)) h := by
  rw [f_X8_weighed_138, if_neg (show ¬ (4 : Int32) ≤ nI t from nI_ge (b := 4) ht (by decide)), show (2 : Int32) = nI 2 from rfl, nI_add, ld_m hM hb h6 ht, bd_s, m_weightOf ht, bd_s, pk_mul, nI_add, lt_s2, lt_s2, nI_1]
theorem al_le {σ : Sg} (w : WFs σ) {b : Nat} (hb : b < σ 0 1) : al σ b ≤ 36 ∧ wt σ b ≤ 234 := by
  have q := (wf_b w hb).2.2.2.1
  have q0 := q 0 (by decide); have q1 := q 1 (by decide); have q2 := q 2 (by decide); have q3 := q 3 (by decide)
  unfold al wt
  simp only [Nat.add_zero] at q0
  omega
theorem WT_le (t : Nat) : WT t ≤ 11 := by unfold WT; (repeat' split) <;> omega
theorem m_w138 {h : AH} {σ : Sg} (hM : MR (h 4) σ) (w : WFs σ) {b r i s : Nat} (it : Nat → Nat) (hb : b < σ 0 1) (hp : 40 * r + i + b < 320) (ht : it b < 4) (ei : h 3 (40 * r + i + b) = nI (it b)) (hs : s < 2 ^ b) (K : Int32 → Int32 → Int32 → Int32 → AH → Option (Int32 × AH)) : f_X8_weighed_138 0 K fu (nI r) (nI i) (nI s) (nI b) 0 0 h = K (nI r) (nI i) (nI (s + fd σ it b * 2 ^ b)) (nI (b + 1)) h := by
  have h6 := w.2.1
  obtain ⟨k, hk⟩ := fu_s 5 (by decide)
  have ⟨l1, l2⟩ := al_le w hb
  have l3 := WT_le (it b)
  have l4 : al σ b * WT (it b) ≤ 36 * 11 := Nat.mul_le_mul l1 l3
  rw [hk, show k + 5 = k + 1 + 1 + 1 + 1 + 1 from rfl, show (0 : Int32) = nI 0 from rfl, m_wStep hM hb h6 (by decide), m_wStep hM hb h6 (by decide), m_wStep hM hb h6 (by decide), m_wStep hM hb h6 (by decide), f_X8_weighed_138, if_pos (show (4 : Int32) ≤ nI (0 + 1 + 1 + 1 + 1) from by decide), m_allOf hM w hb, bd_s, lt_s2, show (40 : Int32) = nI 40 from rfl, pk_mul, nI_add, nI_add, ck_nI _ hp (by decide), cl_nI (by omega), Nat.zero_add, ei, m_weightOf ht, bd_s, pk_mul]
  rw [show 0 + σ 9 (4 * b + 0) * WT 0 + σ 9 (4 * b + (0 + 1)) * WT (0 + 1) + σ 9 (4 * b + (0 + 1 + 1)) * WT (0 + 1 + 1) + σ 9 (4 * b + (0 + 1 + 1 + 1)) * WT (0 + 1 + 1 + 1) = wt σ b from rfl]
  unfold fd
  by_cases c : wt σ b = al σ b * WT (it b)
  · rw [c, if_pos rfl, if_pos rfl, lt_s2, lt_s2, nI_1, or_0, Nat.zero_mul]
    rfl
  · rw [if_neg (fun z => c ((nI_eq (by omega) (by omega)).mp z)), if_neg c, lt_s2, lt_s2, nI_1, or_new b (by omega) s hs, Nat.one_mul]
theorem m_wLoop {h : AH} {σ : Sg} (hM : MR (h 4) σ) (w : WFs σ) {r i : Nat} (it : Nat → Nat) (hp : 40 * r + i + σ 0 1 ≤ 320) (hit : ∀ b, b < σ 0 1 → it b < 4 ∧ h 3 (40 * r + i + b) = nI (it b)) : ∀ (k fuel b : Nat), b + k = σ 0 1 → k < fuel → f_X8_weighed_121 0 fuel (nI r) (nI i) (nI (bsum (fd σ it) b)) (nI b) h = some (nI (bsum (fd σ it) (σ 0 1)), h) := by
  have h6 := w.2.1
  have C1 : h (0 + 4) (1 : Int32).toNatClampNeg = nI (σ 0 1) := hM.2.1
  intro k
  induction k with
  | zero =>
    intro fuel b e hf
    obtain ⟨f, rfl⟩ : ∃ f, fuel = f + 1 := ⟨fuel - 1, by omega⟩
    have : b = σ 0 1 := by omega
    subst this
    rw [f_X8_weighed_121, C1, if_pos (nI_le (Nat.le_refl _) (by omega))]
    rfl
  | succ k ih =>
    intro fuel b e hf
    obtain ⟨f, rfl⟩ : ∃ f, fuel = f + 1 := ⟨fuel - 1, by omega⟩
    have hl := bs_lt (f := fd σ it) (n := b) (fun i _ => by have := fd_01 σ it i; omega)
    rw [f_X8_weighed_121, C1, if_neg (nI_ge (by omega) (by omega)), m_w138 hM w it (by omega) (by omega) (hit b (by omega)).1 (hit b (by omega)).2 hl]
    exact ih f (b + 1) (by omega) (by omega)
theorem x_item {h : AH} {r p : Nat} (hp : 40 * r + p < 320) : f_X5_itemAt 1 (nI r) (nI p) h = some (h 4 (40 * r + p), h) := by
  unfold f_X5_itemAt
  rw [L40, pk_mul, nI_add, lt_s2, Nat.mul_comm r 40, ck_nI _ hp (by decide), cl_nI (by omega)]
theorem x_wLoop {h : AH} {σ : Sg} (hC : CQ h 17 σ) (w : WFs σ) {r i : Nat} (it : Nat → Nat) (hp : 40 * r + i + σ 0 1 ≤ 320) (hit : ∀ b, b < σ 0 1 → it b < 4 ∧ h 4 (40 * r + i + b) = nI (it b)) : ∀ (k fuel b : Nat), b + k = σ 0 1 → k < fuel → f_X7_falselyDeclared_5 0 fuel (nI r) (nI i) (nI (bsum (fd σ it) b)) (nI b) h = some (nI (bsum (fd σ it) (σ 0 1)), h) := by
  have h6 := w.2.1
  intro k
  induction k with
  | zero =>
    intro fuel b e hf
    obtain ⟨f, rfl⟩ : ∃ f, fuel = f + 1 := ⟨fuel - 1, by omega⟩
    have : b = σ 0 1 := by omega
    subst this
    rw [f_X7_falselyDeclared_5, Nat.zero_add, hC.2.2.1, if_pos (nI_le (Nat.le_refl _) (by omega))]
  | succ k ih =>
    intro fuel b e hf
    obtain ⟨f, rfl⟩ : ∃ f, fuel = f + 1 := ⟨fuel - 1, by omega⟩
    have hb : b < σ 0 1 := by omega
    have hl := bs_lt (f := fd σ it) (n := b) (fun i _ => by have := fd_01 σ it i; omega)
    have ⟨l1, l2⟩ := al_le w hb
    have l3 := WT_le (it b)
    have l4 : al σ b * WT (it b) ≤ 36 * 11 := Nat.mul_le_mul l1 l3
    have hi := hit b hb
    rw [f_X7_falselyDeclared_5, Nat.zero_add, Nat.zero_add, hC.2.2.1, if_neg (nI_ge hb (by omega)), x_allOf hC w hb, bd_s, nI_add, x_item (show 40 * r + (i + b) < 320 by omega), bd_s, ← Nat.add_assoc, hi.2, ck_nI _ hi.1 (by decide), cl_nI (by omega), stv0 hi.1, pk_mul, lt_s2, x_weightOf hC w hb, bd_s]
    have ih' := ih f (b + 1) (by omega) (by omega)
    simp only [bsum] at ih'
    by_cases c : wt σ b = al σ b * WT (it b)
    · have e0 : fd σ it b = 0 := by unfold fd; rw [if_pos c]
      rw [e0] at ih'
      rw [c, if_pos rfl, show (0 : Int32) = nI 0 from rfl, x_withNew (by omega) hl (by decide), bd_s, lt_s2, nI_1]
      exact ih'
    · have e0 : fd σ it b = 1 := by unfold fd; rw [if_neg c]
      rw [e0] at ih'
      rw [if_neg (fun z => c ((nI_eq (by omega) (by omega)).mp z)), show f_X7_withBit (nI (bsum (fd σ it) b)) (nI b) 1 h = _ from x_withNew (v := 1) (by omega) hl (by decide) h, bd_s, lt_s2, nI_1]
      exact ih'
theorem trades_loop {hx hm : AH} {σ : Sg} (hC : CQ hx 17 σ) (hM : MR (hm 4) σ) (w : WFs σ) {r i : Nat} (hp : 40 * r + i + σ 0 1 ≤ 320) (eq : ∀ b, b < σ 0 1 → hx 4 (40 * r + i + b) = hm 3 (40 * r + i + b)) : ∀ (k fuel fuel2 b : Nat), b + k = σ 0 1 → k < fuel → k < fuel2 → (f_X7_areTrades_2 0 fuel (nI r) (nI i) (nI b) hx = some (1, hx) ∧ f_X8_weighed_73 0 fuel2 (nI r) (nI i) (nI b) hm = f_X8_weighed_121 0 fu (nI r) (nI i) 0 0 (hset hm 0 1 0) ∧ ∀ b', b ≤ b' → b' < σ 0 1 → ∃ t, t < 4 ∧ hm 3 (40 * r + i + b') = nI t) ∨ (f_X7_areTrades_2 0 fuel (nI r) (nI i) (nI b) hx = some (0, hx) ∧ f_X8_weighed_73 0 fuel2 (nI r) (nI i) (nI b) hm = some (-1000001, hm)) := by
  have h6 := w.2.1
  have C1 : hm (0 + 4) (1 : Int32).toNatClampNeg = nI (σ 0 1) := hM.2.1
  intro k
  induction k with
  | zero =>
    intro fuel fuel2 b e hf hf2
    obtain ⟨f, rfl⟩ : ∃ f, fuel = f + 1 := ⟨fuel - 1, by omega⟩
    obtain ⟨g, rfl⟩ : ∃ f, fuel2 = f + 1 := ⟨fuel2 - 1, by omega⟩
    have : b = σ 0 1 := by omega
    subst this
    rw [f_X7_areTrades_2, f_X8_weighed_73, Nat.zero_add 17, hC.2.2.1, C1, if_pos (nI_le (Nat.le_refl _) (by omega)), if_pos (nI_le (Nat.le_refl _) (by omega)), lt_s2]
    exact Or.inl ⟨rfl, rfl, fun b' h1 h2 => by omega⟩
  | succ k ih =>
    intro fuel fuel2 b e hf hf2
    obtain ⟨f, rfl⟩ : ∃ f, fuel = f + 1 := ⟨fuel - 1, by omega⟩
    obtain ⟨g, rfl⟩ : ∃ f, fuel2 = f + 1 := ⟨fuel2 - 1, by omega⟩
    have hb : b < σ 0 1 := by omega
    unfold f_X8_isTrade at *
    rw [f_X7_areTrades_2, f_X8_weighed_73, Nat.zero_add 17, hC.2.2.1, C1, if_neg (nI_ge hb (by omega)), if_neg (nI_ge hb (by omega)), nI_add, Nat.zero_add, x_item (show 40 * r + (i + b) < 320 by omega), bd_s, ← Nat.add_assoc, eq b hb, x_isTrade, bd_s, show (40 : Int32) = nI 40 from rfl, pk_mul, nI_add, nI_add, lt_s2 (nI (40 * r + i + b)), ck_nI _ (show 40 * r + i + b < 320 by omega) (by decide), cl_nI (show 40 * r + i + b < 2 ^ 31 by omega), Nat.zero_add]
    unfold f_X8_isTrade
    rw [m_in3, bd_s, gz_rg, bd_s]
    rcases rg_cases (hm 3 (40 * r + i + b)) (n := 4) (by decide) with h0 | ⟨t, ht, et⟩
    · rw [h0, if_pos rfl, if_pos rfl]
      exact Or.inr ⟨rfl, rfl⟩
    · rw [et, rg_in ht (by decide), if_neg n10, if_neg n10, lt_s2, lt_s2, nI_1]
      rcases ih f g (b + 1) (by omega) (by omega) (by omega) with ⟨z1, z2, z3⟩ | ⟨z1, z2⟩
      · refine Or.inl ⟨z1, z2, fun b' h1 h2 => ?_⟩
        by_cases c : b' = b
        · subst c
          exact ⟨t, ht, et⟩
        · exact z3 b' (by omega) h2
      · exact Or.inr ⟨z1, z2⟩
theorem ok_weighed (a0 a1 : Int32) : OK2 Rel (fun h => f_X7_weighed 0 a0 a1 h) (fun h => f_X8_weighed 0 a0 a1 h) := by
  intro hx hm hR
  show ∃ r hx2 hm2, f_X7_weighed 0 a0 a1 hx = some (r, hx2) ∧ f_X8_weighed 0 a0 a1 hm = some (r, hm2) ∧ Rel hx2 hm2
  have hR1 := rel_thrown hR
  unfold f_X7_weighed f_X8_weighed
  rw [lt_s2 (hset hm 0 0 0)]
  generalize hset hm 0 0 0 = hm1 at hR1 ⊢
  obtain ⟨σ, w, hC, hM, e7, -⟩ := hR1.2.2.2.1
  have hC : CQ hx 17 σ := hC
  have h41 := w.2.2.2.1
  have h6 := w.2.1
  have C1 : hm1 (0 + 4) (1 : Int32).toNatClampNeg = nI (σ 0 1) := hM.2.1
  rw [Nat.zero_add 17, show hx 17 0 = _ from hC.1, e7]
  by_cases c0 : σ 0 4 = 0
  · rw [c0, if_n0, if_n0]
    exact ⟨_, _, _, rfl, rfl, hR1⟩
  have hst : σ 0 4 = 1 := by omega
  rw [hst, if_n1, if_n1, x_isRow, m_isRow, bd_s, bd_s]
  rcases rg_cases a0 (n := 8) (by decide) with h0 | ⟨r, hr, rfl⟩
  · rw [h0, if_pos rfl, if_pos rfl]
    exact ⟨_, _, _, rfl, rfl, hR1⟩
  simp only [rg_in hr (show 8 < 2 ^ 31 by decide), if_neg n10, x_missing hr, bd_s, ck_nI _ hr (show 8 < 2 ^ 31 by decide), cl_nI (show r < 2 ^ 31 by omega), C1, show hx 17 2 = nI (σ 0 1) from hC.2.2.1, show ck 1 100 = fun K : Option (Int32 × AH) => K from rfl, Nat.zero_add]
  rcases hR1.2.1 r hr with ⟨q1, q2⟩ | ⟨n, l, q1, q2, q3, q4, q5, q6, q7⟩
  · rw [q1, if_pos rfl, if_neg n10, q2, if_neg (show ¬ (0 : Int32) ≤ -1 by decide)]
    simp only [x_found, bd_s, m_finding]
    exact ⟨_, _, _, rfl, rfl, rel_status hR1 1⟩
  rw [q3, if_neg (m1_ne (by omega)), if_pos rfl, q5, if_pos (nI_pos' (by omega)), q6]
  by_cases c1 : a1 < 0
  · rw [if_pos c1, x_hp0 _ _ (Or.inl c1), bd_s, if_pos rfl]
    simp only [x_found, bd_s, m_finding]
    exact ⟨_, _, _, rfl, rfl, rel_status hR1 2⟩
  obtain ⟨i, hi, rfl⟩ := nI_of c1
  have lgn : (lg_cmp ((nI i).toInt64 + (nI (σ 0 1)).toInt64) (nI n).toInt64 ≤ 0) = ¬ (n < i + σ 0 1) := by
    rw [← lg_big hi (show σ 0 1 < 2 ^ 31 by omega) (show n < 2 ^ 31 by omega)]
    apply propext
    rw [Int32.not_lt]
  rw [if_neg c1, x_hp hr q1 hi (by omega) q3, bd_s]
  simp only [lgn]
  by_cases k1 : i + σ 0 1 ≤ n
  rotate_left
  · rw [if_neg k1, if_pos rfl, if_neg (by omega)]
    simp only [x_found, bd_s, m_finding]
    exact ⟨_, _, _, rfl, rfl, rel_status hR1 2⟩
  rw [if_pos k1, if_neg n10, if_pos (by omega)]
  have eq : ∀ b, b < σ 0 1 → hx 4 (40 * r + i + b) = hm1 3 (40 * r + i + b) := fun b hb => by
    rw [Nat.add_assoc]
    exact q7 _ (by omega)
  unfold f_X7_areTrades f_X7_falselyDeclared
  rw [show (0 : Int32) = nI 0 from rfl]
  rcases trades_loop hC hM w (by omega) eq (σ 0 1) fu fu 0 (by omega) (fu_ge _ (by omega)) (fu_ge _ (by omega)) with ⟨z1, z2, z3⟩ | ⟨z1, z2⟩
  · rw [z1, z2, bd_s, if_neg (show ¬ (1 : Int32) = nI 0 from n10)]
    have hit : ∀ b, b < σ 0 1 → ∃ t, t < 4 ∧ hm1 3 (40 * r + i + b) = nI t := fun b hb => z3 b (by omega) hb
    obtain ⟨it, hit2⟩ : ∃ it : Nat → Nat, ∀ b, b < σ 0 1 → it b < 4 ∧ hm1 3 (40 * r + i + b) = nI (it b) := by
      refine ⟨fun b => if h : b < σ 0 1 then Classical.choose (hit b h) else 0, fun b hb => ?_⟩
      simp only [dif_pos hb]
      exact Classical.choose_spec (hit b hb)
    have hMs : MR ((hset hm1 0 1 0) 4) σ := by rw [hs_cell _ _ _ _ _ (by decide)]; exact hM
    have e1 := x_wLoop hC w it (by omega) (fun b hb => ⟨(hit2 b hb).1, (eq b hb).trans (hit2 b hb).2⟩) (σ 0 1) fu 0 (by omega) (fu_ge _ (by omega))
    have e2 := m_wLoop hMs w it (r := r) (i := i) (by omega) (fun b hb => by rw [hs_cell _ _ _ _ _ (by decide)]; exact hit2 b hb) (σ 0 1) fu 0 (by omega) (fu_ge _ (by omega))
    rw [show bsum (fd σ it) 0 = 0 from rfl] at e1 e2
    rw [e1, bd_s, x_unfound, bd_s]
    exact ⟨_, _, _, rfl, e2, rel_status hR1 0⟩
  · rw [z1, z2, bd_s, if_pos (show (0 : Int32) = nI 0 from rfl)]
    exact ⟨_, _, _, rfl, rfl, hR1⟩
