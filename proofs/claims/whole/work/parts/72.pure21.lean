-- the tide
def TD (hx hm : AH) (t : Nat) : Prop := ∃ v, v ≤ 20 ∧ hx 9 t = nI v ∧ hm 5 (4 + t) = nI v
def qTX (hx hx2 : AH) : Prop := ∀ c j, c ≠ 9 → (c = 5 → j ≠ 2 ∧ j ≠ 3 ∧ j ≠ 4) → hx2 c j = hx c j
def qTM (hm hm2 : AH) : Prop := ∀ c j, (c = 5 → j < 4 ∨ 16 ≤ j) → (c = 0 → j < 14 ∨ 19 < j) → hm2 c j = hm c j
theorem qTX_F {a b : AH} (h : qTX a b) : FX a b := fun c j n m => h c j (by omega) m
theorem qTM_F {a b : AH} (h : qTM a b) : FM a b := fun c j n m => h c j (fun z => absurd z n) m
theorem mf_tide {g s e : Nat} : ∀ (k fuel i : Nat) (hm : AH), i + k = 12 → k < fuel → MF hm g s e → ∃ hm2, f_X8_readTide_22 0 fuel (nI i) hm = some ((), hm2) ∧ MF hm2 g s e ∧ FM hm hm2 := by
  intro k
  induction k with
  | zero =>
    intro fuel i hm hi hf hF
    obtain ⟨f, rfl⟩ : ∃ f, fuel = f + 1 := ⟨fuel - 1, by omega⟩
    refine ⟨hm, ?_, hF, FM_r hm⟩
    rw [f_X8_readTide_22, if_pos (show (11 : Int32) < nI i from nI_lt (a := 11) (by omega) (by omega)), mf_mustEnd hF, bd_s]
  | succ k ih =>
    intro fuel i hm hi hf hF
    obtain ⟨f, rfl⟩ : ∃ f, fuel = f + 1 := ⟨fuel - 1, by omega⟩
    obtain ⟨hm2, z1, z2, z3⟩ := ih f (i + 1) (hset hm 5 (4 + i) 0) (by omega) (by omega) (MF_c hF (hs_cell _ _ _ _ _ (by decide)))
    refine ⟨hm2, ?_, z2, FM_t FM_s z3⟩
    rw [f_X8_readTide_22, if_neg (show ¬ (11 : Int32) < nI i from nI_nlt (b := i) (a := 11) (by omega) (by decide)), mf_number hF, bd_s, show (4 : Int32) = nI 4 from rfl, nI_add, lt_s2, ck_nI _ (by omega) (by decide), cl_nI (by omega), lt_s2, lt_s2, nI_1]
    exact z1
theorem jtideL {n : Nat} {V : Nat → Nat} : ∀ (k fx fm i s e kk : Nat) (hx hm : AH), i + k = 12 → k < fx → k < fm → PP hx hm n V s e kk → (∀ t, t < i → TD hx hm t) → (∃ hx2 hm2 s2 e2 k2, f_X4_readTide_21 7 5 fx (nI i) hx = some (1, hx2) ∧ f_X8_readTide_22 0 fm (nI i) hm = some ((), hm2) ∧ PP hx2 hm2 n V s2 e2 k2 ∧ (∀ t, t < 12 → TD hx2 hm2 t) ∧ qTX hx hx2 ∧ qTM hm hm2) ∨ (∃ hx2 hm2, f_X4_readTide_21 7 5 fx (nI i) hx = some (0, hx2) ∧ f_X8_readTide_22 0 fm (nI i) hm = some ((), hm2) ∧ Fl hx hm hx2 hm2) := by
  intro k
  induction k with
  | zero =>
    intro fx fm i s e kk hx hm hi hfx hfm hP hT
    obtain ⟨f, rfl⟩ : ∃ f, fx = f + 1 := ⟨fx - 1, by omega⟩
    obtain ⟨f2, rfl⟩ : ∃ f, fm = f + 1 := ⟨fm - 1, by omega⟩
    rw [f_X4_readTide_21, f_X8_readTide_22, if_pos (show (12 : Int32) ≤ nI i from nI_le (a := 12) (by omega) (by omega)), if_pos (show (11 : Int32) < nI i from nI_lt (a := 11) (by omega) (by omega))]
    rcases jsign hP with ⟨hx2, hm2, s2, e2, k2, j1, j2, j3, j4, j5⟩ | ⟨hx2, hm2, j1, j2, j3⟩
    · refine Or.inl ⟨hx2, hm2, s2, e2, k2, ?_, ?_, j3, fun t ht => ?_, fun c j _ m => j4 c j m, fun c j _ m => j5 c j m⟩
      · rw [j1, bd_s, gz_1]
      · rw [j2, bd_s]
      · obtain ⟨v, v1, v2, v3⟩ := hT t (by omega)
        exact ⟨v, v1, by rw [j4 9 t (by omega), v2], by rw [j5 5 (4 + t) (by omega), v3]⟩
    · refine Or.inr ⟨hx2, hm2, ?_, ?_, j3⟩
      · rw [j1, bd_s, gz_0]
      · rw [j2, bd_s]
  | succ k ih =>
    intro fx fm i s e kk hx hm hi hfx hfm hP hT
    obtain ⟨f, rfl⟩ : ∃ f, fx = f + 1 := ⟨fx - 1, by omega⟩
    obtain ⟨f2, rfl⟩ : ∃ f, fm = f + 1 := ⟨fm - 1, by omega⟩
    rw [f_X4_readTide_21, f_X8_readTide_22, if_neg (show ¬ (12 : Int32) ≤ nI i from nI_ge (b := 12) (by omega) (by decide)), if_neg (show ¬ (11 : Int32) < nI i from nI_nlt (b := i) (a := 11) (by omega) (by decide))]
    rcases jnum hP (lo := 0) (hi := 20) (r := 7 + 1 + 1) (n4 := 12) (j := i) (A := 0) (B := 20) (C := nI i) rfl rfl rfl (by decide) (by decide) (by decide) (by omega) (by decide) with ⟨v, hx2, hm2, s2, e2, k2, lv, vh, j1, j2, j3, j4, j5⟩ | ⟨v, hx2, hm2, j1, j2, j3⟩
    · have hP2 : PP hx2 (hset hm2 5 (4 + i) (nI v)) n V s2 e2 k2 := PP_congr j3 rfl rfl (hs_cell _ _ _ _ _ (by decide)) (hs_cell _ _ _ _ _ (by decide))
      have hT2 : ∀ t, t < i + 1 → TD hx2 (hset hm2 5 (4 + i) (nI v)) t := by
        intro t ht
        by_cases c : t = i
        · exact ⟨v, vh, by rw [c, j4 9 i (by omega), hs_is ⟨rfl, rfl⟩], by rw [c, hs_is ⟨rfl, rfl⟩]⟩
        · obtain ⟨w, w1, w2, w3⟩ := hT t (by omega)
          exact ⟨w, w1, by rw [j4 9 t (by omega), hs_ne (by omega), w2], by rw [hs_ne (by omega), j5 5 (4 + t) (by omega), w3]⟩
      have ax : qTX hx hx2 := fun c j q m => by rw [j4 c j m, hs_ne (by omega)]
      have am : qTM hm (hset hm2 5 (4 + i) (nI v)) := fun c j q m => by rw [hs_ne (by omega), j5 c j m]
      rw [j1, bd_s, if_neg n10, lt_s2, nI_1, j2, bd_s, show (4 : Int32) = nI 4 from rfl, nI_add, lt_s2, ck_nI _ (by omega) (by decide), cl_nI (by omega), lt_s2, lt_s2]
      rcases ih f f2 (i + 1) s2 e2 k2 hx2 (hset hm2 5 (4 + i) (nI v)) (by omega) (by omega) (by omega) hP2 hT2 with ⟨hx3, hm3, s3, e3, k3, q1, q2, q3, q4, q5, q6⟩ | ⟨hx3, hm3, q1, q2, q3⟩
      · exact Or.inl ⟨hx3, hm3, s3, e3, k3, q1, q2, q3, q4, fun c j q m => (q5 c j q m).trans (ax c j q m), fun c j q m => (q6 c j q m).trans (am c j q m)⟩
      · exact Or.inr ⟨hx3, hm3, q1, q2, Fl_t (qTX_F ax) (qTM_F am) q3⟩
    · obtain ⟨⟨g, s', e', F1, F2⟩, F3, F4⟩ := j3
      obtain ⟨hm3, z1, z2, z3⟩ := mf_tide k f2 (i + 1) (hset hm2 5 (4 + i) v) (by omega) (by omega) (MF_c F2 (hs_cell _ _ _ _ _ (by decide)))
      refine Or.inr ⟨hx2, hm3, ?_, ?_, ⟨g, s', e', F1, z2⟩, F3, FM_t F4 (FM_t FM_s z3)⟩
      · rw [j1, bd_s, if_pos rfl]
      · rw [j2, bd_s, show (4 : Int32) = nI 4 from rfl, nI_add, lt_s2, ck_nI _ (by omega) (by decide), cl_nI (by omega), lt_s2, lt_s2, nI_1]
        exact z1
theorem jtide {hx hm : AH} {n : Nat} {V : Nat → Nat} {s e k : Nat} (hP : PP hx hm n V s e k) : (∃ hx2 hm2 s2 e2 k2, f_X4_readTide 7 5 hx = some (1, hx2) ∧ f_X8_readTide 0 hm = some ((), hm2) ∧ PP hx2 hm2 n V s2 e2 k2 ∧ (∀ t, t < 12 → TD hx2 hm2 t) ∧ qTX hx hx2 ∧ qTM hm hm2) ∨ (∃ hx2 hm2, f_X4_readTide 7 5 hx = some (0, hx2) ∧ f_X8_readTide 0 hm = some ((), hm2) ∧ Fl hx hm hx2 hm2) := by
  obtain ⟨x, hx56, e1, e2⟩ := jw hP
  have ew := e2 0 (by decide)
  unfold f_X4_readTide f_X8_readTide
  rw [ew, bd_s, e1, bd_s, show (1953064037 : Int64) = lN (CW 0) from rfl]
  simp only [lg_w hx56 (show CW 0 < 2 ^ 56 by decide)]
  by_cases c : x = CW 0
  · obtain ⟨hx1, hm1, s1, e1', k1, j1, j2, j3, j4, j5⟩ := jstep hP
    rw [if_pos c, if_n1, if_pos c, j1, bd_s, m_must1 (P18 hP) j2, bd_s, show (0 : Int32) = nI 0 from rfl]
    rcases jtideL 12 fu fu 0 s1 e1' k1 hx1 hm1 (by decide) (fu_ge _ (by decide)) (fu_ge _ (by decide)) j3 (fun t ht => absurd ht (Nat.not_lt_zero t)) with ⟨hx3, hm3, s3, e3, k3, q1, q2, q3, q4, q5, q6⟩ | ⟨hx3, hm3, q1, q2, q3⟩
    · exact Or.inl ⟨hx3, hm3, s3, e3, k3, q1, q2, q3, q4, fun c j q m => (q5 c j q m).trans (j4 c j m), fun c j q m => (q6 c j q m).trans (j5 c j m)⟩
    · exact Or.inr ⟨hx3, hm3, q1, q2, Fl_t (GX_F j4) (GM_F j5) q3⟩
  · obtain ⟨hm3, z1, z2, z3⟩ := mf_tide 12 fu 0 (BH hm 1) (by decide) (fu_ge _ (by decide)) (BH_M hP (by decide) (by decide))
    have fl := bad_Fl hP (g := 1) (by decide) (by decide)
    refine Or.inr ⟨hset hx 7 1 (nI 1), hm3, ?_, ?_, ⟨1, s, e, ⟨hs_self _ _ _ _, by rw [hs_ne (by omega)]; exact hP.2.2.2.1⟩, z2⟩, fl.2.1, FM_t fl.2.2 z3⟩
    · rw [if_neg c, if_n0, x_faulty, bd_s, gz_0]
      rfl
    · rw [if_neg c, m_must0 hP, bd_s]
      exact z1
-- arches
def AD (hx hm : AH) (a : Nat) : Prop := ∃ u o t l, u ≤ 4 ∧ o ≤ 4 ∧ 1 ≤ t ∧ t ≤ 30 ∧ l ≤ 9 ∧ hx 10 a = nI u ∧ hx 10 (6 + a) = nI o ∧ hx 11 a = nI t ∧ hx 12 a = nI l ∧ hm 5 (16 + 7 * a) = nI u ∧ hm 5 (16 + 7 * a + 1) = nI o ∧ hm 5 (16 + 7 * a + 2) = nI t ∧ hm 5 (16 + 7 * a + 3) = nI l
def AX (a : Nat) (hx hx2 : AH) : Prop := ∀ c j, (c = 10 → j ≠ a ∧ j ≠ 6 + a) → (c = 11 ∨ c = 12 → j ≠ a) → (c = 5 → j ≠ 2 ∧ j ≠ 3 ∧ j ≠ 4) → hx2 c j = hx c j
def AM (a : Nat) (hm hm2 : AH) : Prop := ∀ c j, (c = 5 → j ≠ 0 ∧ (j < 16 + 7 * a ∨ 20 + 7 * a ≤ j)) → (c = 0 → j < 14 ∨ 19 < j) → hm2 c j = hm c j
theorem m_begins {hm hm2 : AH} {x a : Nat} (h18 : hm 0 18 = 0) (hx : x < 100) (ea : hm 5 x = nI a) (ha : a < 6) (e : f_X8_next 0 hm = some ((), hm2)) : f_X8_begins 0 (nI x) 6 hm = some ((), hm2) := by
  unfold f_X8_begins
  rw [ck_nI _ hx (by decide), cl_nI (by omega), Nat.zero_add, ea, if_neg (show ¬ nI a = 6 from fun z => by have := (nI_eq (a := a) (b := 6) (by omega) (by decide)).mp z; omega), m_must1 h18 e, bd_s]
theorem m_begins6 {hx hm : AH} {n : Nat} {V : Nat → Nat} {s e k : Nat} (hP : PP hx hm n V s e k) {x : Nat} (hx : x < 100) (ea : hm 5 x = nI 6) : f_X8_begins 0 (nI x) 6 hm = some ((), BH hm 3) := by
  unfold f_X8_begins
  rw [ck_nI _ hx (by decide), cl_nI (by omega), Nat.zero_add, ea, if_pos (show nI 6 = 6 from rfl), show (3 : Int32) = nI 3 from rfl, m_bad (P18 hP), bd_s, mf_must (BH_M hP (by decide) (by decide)), bd_s]
theorem x_chpl {d a : Nat} {D A : Int32} (eD : D = nI d) (eA : A = nI a) (h : AH) : f_X2_charterPlace D A h = some (nI (6 * d + a), h) := by
  subst eD eA
  unfold f_X2_charterPlace
  rw [show (6 : Int32) = nI 6 from rfl, pk_mul, nI_add, Nat.mul_comm d 6]
theorem x_ldpl {d a : Nat} {D A : Int32} (eD : D = nI d) (eA : A = nI a) (h : AH) : f_X2_loadPlace D A h = some (nI (4 * d + a), h) := by
  subst eD eA
  unfold f_X2_loadPlace
  rw [show (4 : Int32) = nI 4 from rfl, pk_mul, nI_add, Nat.mul_comm d 4]
theorem jarch {hx hm : AH} {n : Nat} {V : Nat → Nat} {s e k : Nat} (hP : PP hx hm n V s e k) {a : Nat} (ha : a < 6) (ma : hm 5 0 = nI a) : (∃ hx2 hm2 s2 e2 k2, f_X4_readArch 7 5 (nI a) hx = some (1, hx2) ∧ f_X8_readArch 0 hm = some ((), hm2) ∧ PP hx2 hm2 n V s2 e2 k2 ∧ AD hx2 hm2 a ∧ hm2 5 0 = nI (a + 1) ∧ AX a hx hx2 ∧ AM a hm hm2) ∨ (∃ hx2 hm2, f_X4_readArch 7 5 (nI a) hx = some (0, hx2) ∧ f_X8_readArch 0 hm = some ((), hm2) ∧ Fl hx hm hx2 hm2) := by
  obtain ⟨hx1, hm1, s1, e1, k1, a1, a2, a3, a4, a5⟩ := jstep hP
  unfold f_X4_readArch f_X8_readArch
  rw [a1, bd_s, show f_X8_begins 0 0 6 hm = _ from m_begins (x := 0) (P18 hP) (by decide) ma ha a2, bd_s, x_chpl (D := 0) (d := 0) (a := a) rfl rfl, bd_s, Nat.mul_zero, Nat.zero_add]
  have fx1 : FX hx hx1 := GX_F a4
  have fm1 : FM hm hm1 := GM_F a5
  rcases jnum a3 (lo := 0) (hi := 4) (r := 7 + 1 + 2) (n4 := 12) (j := a) (A := 0) (B := 4) (C := nI a) rfl rfl rfl (by decide) (by decide) (by decide) (by omega) (by decide) with ⟨u, hx2, hm2, s2, e2, k2, -, u4, b1, b2, b3, b4, b5⟩ | ⟨u, hx2, hm2, b1, b2, b3⟩
  rotate_left
  · obtain ⟨⟨g, s', e', F1, F2⟩, F3, F4⟩ := b3
    refine Or.inr ⟨hx2, hm2, by rw [b1, bd_s, if_pos rfl], ?_, Fl_t fx1 fm1 ⟨⟨g, s', e', F1, F2⟩, F3, F4⟩⟩
    rw [b2, bd_s, mf_number F2, bd_s, mf_number F2, bd_s, mf_number F2, bd_s, mf_mustEnd F2, bd_s, if_neg (mf_18 F2).1]
  have fx2 : FX hx hx2 := FX_t fx1 (FX_t (FX_s (by decide)) (GX_F b4))
  have fm2 : FM hm hm2 := FM_t fm1 (GM_F b5)
  rw [b1, bd_s, if_neg n10, b2, bd_s, x_chpl (D := 1) (d := 1) (a := a) rfl rfl, bd_s, Nat.mul_one]
  rcases jnum b3 (lo := 0) (hi := 4) (r := 7 + 1 + 2) (n4 := 12) (j := 6 + a) (A := 0) (B := 4) (C := nI (6 + a)) rfl rfl rfl (by decide) (by decide) (by decide) (by omega) (by decide) with ⟨o, hx3, hm3, s3, e3, k3, -, o4, c1, c2, c3, c4, c5⟩ | ⟨o, hx3, hm3, c1, c2, c3⟩
  rotate_left
  · obtain ⟨⟨g, s', e', F1, F2⟩, F3, F4⟩ := c3
    refine Or.inr ⟨hx3, hm3, by rw [c1, bd_s, if_pos rfl], ?_, Fl_t fx2 fm2 ⟨⟨g, s', e', F1, F2⟩, F3, F4⟩⟩
    rw [c2, bd_s, mf_number F2, bd_s, mf_number F2, bd_s, mf_mustEnd F2, bd_s, if_neg (mf_18 F2).1]
  have fx3 : FX hx hx3 := FX_t fx2 (FX_t (FX_s (by decide)) (GX_F c4))
  have fm3 : FM hm hm3 := FM_t fm2 (GM_F c5)
  rw [c1, bd_s, if_neg n10, c2, bd_s]
  rcases jnum c3 (lo := 1) (hi := 30) (r := 7 + 1 + 3) (n4 := 6) (j := a) (A := 1) (B := 30) (C := nI a) rfl rfl rfl (by decide) (by decide) (by decide) (by omega) (by decide) with ⟨t, hx4, hm4, s4, e4, k4, t1, t30, d1, d2, d3, d4, d5⟩ | ⟨t, hx4, hm4, d1, d2, d3⟩
  rotate_left
  · obtain ⟨⟨g, s', e', F1, F2⟩, F3, F4⟩ := d3
    refine Or.inr ⟨hx4, hm4, by rw [d1, bd_s, if_pos rfl], ?_, Fl_t fx3 fm3 ⟨⟨g, s', e', F1, F2⟩, F3, F4⟩⟩
    rw [d2, bd_s, mf_number F2, bd_s, mf_mustEnd F2, bd_s, if_neg (mf_18 F2).1]
  have fx4 : FX hx hx4 := FX_t fx3 (FX_t (FX_s (by decide)) (GX_F d4))
  have fm4 : FM hm hm4 := FM_t fm3 (GM_F d5)
  rw [d1, bd_s, if_neg n10, d2, bd_s]
  rcases jnum d3 (lo := 0) (hi := 9) (r := 7 + 1 + 4) (n4 := 6) (j := a) (A := 0) (B := 9) (C := nI a) rfl rfl rfl (by decide) (by decide) (by decide) (by omega) (by decide) with ⟨l, hx5, hm5, s5, e5, k5, -, l9, g1, g2, g3, g4, g5⟩ | ⟨l, hx5, hm5, g1, g2, g3⟩
  rotate_left
  · obtain ⟨⟨g, s', e', F1, F2⟩, F3, F4⟩ := g3
    refine Or.inr ⟨hx5, hm5, by rw [g1, bd_s, if_pos rfl], ?_, Fl_t fx4 fm4 ⟨⟨g, s', e', F1, F2⟩, F3, F4⟩⟩
    rw [g2, bd_s, mf_mustEnd F2, bd_s, if_neg (mf_18 F2).1]
  have fx5 : FX hx hx5 := FX_t fx4 (FX_t (FX_s (by decide)) (GX_F g4))
  have fm5 : FM hm hm5 := FM_t fm4 (GM_F g5)
  rw [g1, bd_s, if_neg n10, g2, bd_s]
  rcases jsign g3 with ⟨hx6, hm6, s6, e6, k6, i1, i2, i3, i4, i5⟩ | ⟨hx6, hm6, i1, i2, i3⟩
  rotate_left
  · obtain ⟨⟨g, s', e', F1, F2⟩, F3, F4⟩ := i3
    refine Or.inr ⟨hx6, hm6, by rw [i1, bd_s, if_pos rfl], ?_, Fl_t fx5 fm5 ⟨⟨g, s', e', F1, F2⟩, F3, F4⟩⟩
    rw [i2, bd_s, if_neg (mf_18 F2).1]
  have m0 : hm6 5 0 = nI a := by rw [i5 5 0 (by omega), g5 5 0 (by omega), d5 5 0 (by omega), c5 5 0 (by omega), b5 5 0 (by omega), a5 5 0 (by omega), ma]
  refine Or.inl ⟨hx6, hset (hset (hset (hset (hset hm6 5 (16 + 7 * a) (nI u)) 5 (16 + 7 * a + 1) (nI o)) 5 (16 + 7 * a + 2) (nI t)) 5 (16 + 7 * a + 3) (nI l)) 5 0 (nI (a + 1)), s6, e6, k6, by rw [i1, bd_s, if_neg n10], ?_, ?_, ⟨u, o, t, l, u4, o4, t1, t30, l9, ?_, ?_, ?_, ?_, ?_, ?_, ?_, ?_⟩, hs_self _ _ _ _, ?_, ?_⟩
  · rw [i2, bd_s, if_pos (P18 i3)]
    simp (disch := omega) only [lt_s2, bd_s, bh_s, gz_0, gz_1, L0, L1, L2, L3, L4, L5, L6, L7, L8, L9, L10, L11, L12, L13, L14, L15, L16, L17, L18, L19, L20, L21, L22, L23, L24, L30, L31, L32, L36, L39, L40, L48, L57, L58, L59, L71, L72, L97, L99, L100, L122, L143, L144, L255, L320, L500, L720, L1000, L2300, L2400, nI_add, pk_mul, nI_leI, nI_ltI, nI_eqI, ck_nI, cl_nI, Nat.zero_add, Nat.add_zero, Nat.reduceAdd, Nat.reduceMul, if_pos, if_neg, if_true, if_false, m0, hs_ne]
  · exact PP_congr i3 rfl rfl (by rw [hs_cell _ _ _ _ _ (by decide), hs_cell _ _ _ _ _ (by decide), hs_cell _ _ _ _ _ (by decide), hs_cell _ _ _ _ _ (by decide), hs_cell _ _ _ _ _ (by decide)]) (by rw [hs_cell _ _ _ _ _ (by decide), hs_cell _ _ _ _ _ (by decide), hs_cell _ _ _ _ _ (by decide), hs_cell _ _ _ _ _ (by decide), hs_cell _ _ _ _ _ (by decide)])
  · rw [i4 10 a (by omega), g4 10 a (by omega), hs_ne (by omega), d4 10 a (by omega), hs_ne (by omega), c4 10 a (by omega), hs_ne (by omega), b4 10 a (by omega), hs_is ⟨rfl, rfl⟩]
  · rw [i4 10 (6 + a) (by omega), g4 10 (6 + a) (by omega), hs_ne (by omega), d4 10 (6 + a) (by omega), hs_ne (by omega), c4 10 (6 + a) (by omega), hs_is ⟨rfl, rfl⟩]
  · rw [i4 11 a (by omega), g4 11 a (by omega), hs_ne (by omega), d4 11 a (by omega), hs_is ⟨rfl, rfl⟩]
  · rw [i4 12 a (by omega), g4 12 a (by omega), hs_is ⟨rfl, rfl⟩]
  · rw [hs_ne (by omega), hs_ne (by omega), hs_ne (by omega), hs_ne (by omega), hs_self]
  · rw [hs_ne (by omega), hs_ne (by omega), hs_ne (by omega), hs_self]
  · rw [hs_ne (by omega), hs_ne (by omega), hs_self]
  · rw [hs_ne (by omega), hs_self]
  · intro c j q1 q2 m
    rw [i4 c j m, g4 c j m, hs_ne (by omega), d4 c j m, hs_ne (by omega), c4 c j m, hs_ne (by omega), b4 c j m, hs_ne (by omega), a4 c j m]
  · intro c j q1 m
    rw [hs_ne (by omega), hs_ne (by omega), hs_ne (by omega), hs_ne (by omega), hs_ne (by omega), i5 c j m, g5 c j m, d5 c j m, c5 c j m, b5 c j m, a5 c j m]
-- behind a fault the model ends
theorem mf_boats {hm : AH} {g s e : Nat} (hF : MF hm g s e) {f : Nat} (hf : 0 < f) : f_X8_bridge_68 0 f hm = some (-1000100 - nI s, hset hm 0 12 (nI g)) := by
  obtain ⟨f', rfl⟩ : ∃ f', f = f' + 1 := ⟨f - 1, by omega⟩
  rw [f_X8_bridge_68, mf_name hF, bd_s, if_neg (by decide), if_neg (mf_18 hF).1]
  unfold f_X8_bridge_106
  rw [if_neg (mf_18 hF).2, lt_s2, hs_ne (by omega), hF.2.2.2.2.1, hF.2.2.2.2.2.1]
theorem mf_arches {hm : AH} {g s e : Nat} (hF : MF hm g s e) {f : Nat} (hf : 0 < f) : f_X8_bridge_50 0 f hm = some (-1000100 - nI s, hset hm 0 12 (nI g)) := by
  obtain ⟨f', rfl⟩ : ∃ f', f = f' + 1 := ⟨f - 1, by omega⟩
  rw [f_X8_bridge_50, mf_name hF, bd_s, if_neg (by decide), mf_boats hF (fu_ge 0 (by decide))]
def AF (hx hx2 : AH) : Prop := ∀ c j, (c = 8 → j ≠ 1) → (c < 10 ∨ 12 < c) → (c = 5 → j ≠ 2 ∧ j ≠ 3 ∧ j ≠ 4) → hx2 c j = hx c j
def BF (hm hm2 : AH) : Prop := ∀ c j, (c = 5 → (0 < j ∧ j < 16) ∨ 58 ≤ j ∨ (16 ≤ j ∧ 4 ≤ (j - 16) % 7)) → (c = 0 → j < 14 ∨ 19 < j) → hm2 c j = hm c j
theorem AF_r (h : AH) : AF h h := fun _ _ _ _ _ => rfl
theorem BF_r (h : AH) : BF h h := fun _ _ _ _ => rfl
theorem jarches {n : Nat} {V : Nat → Nat} : ∀ (k fx fm a s e kk : Nat) (hx hm : AH), a + k = 6 → k < fx → k + 1 < fm → PP hx hm n V s e kk → hx 8 1 = nI a → hm 5 0 = nI a → (∀ i, i < a → AD hx hm i) → (∃ hx2 hm2 s2 e2 k2 a2, f_X4_readArches_17 7 5 fx (nI a) hx = some (1, hx2) ∧ f_X8_bridge_50 0 fm hm = f_X8_bridge_68 0 fu hm2 ∧ PP hx2 hm2 n V s2 e2 k2 ∧ a2 ≤ 6 ∧ hx2 8 1 = nI a2 ∧ hm2 5 0 = nI a2 ∧ (∀ i, i < a2 → AD hx2 hm2 i) ∧ AF hx hx2 ∧ BF hm hm2) ∨ (∃ hx2 hm2 g s', f_X4_readArches_17 7 5 fx (nI a) hx = some (0, hx2) ∧ f_X8_bridge_50 0 fm hm = some (-1000100 - nI s', hset hm2 0 12 (nI g)) ∧ XF hx2 g s' ∧ FX hx hx2 ∧ FM hm hm2) := by
  intro k
  induction k with
  | zero =>
    intro fx fm a s e kk hx hm hi hfx hfm hP x1 m0 hA
    obtain ⟨f, rfl⟩ : ∃ f, fx = f + 1 := ⟨fx - 1, by omega⟩
    obtain ⟨f2, rfl⟩ : ∃ f, fm = f + 1 := ⟨fm - 1, by omega⟩
    obtain ⟨x, hx56, e1, e2⟩ := jw hP
    have ew := e2 1 (by decide)
    have ha : a = 6 := by omega
    subst ha
    rw [f_X4_readArches_17, f_X8_bridge_50, if_neg (show ¬ (6 : Int32) < nI 6 by decide), ew, bd_s, e1, bd_s, show (1634886504 : Int64) = lN (CW 1) from rfl]
    simp only [lg_w hx56 (show CW 1 < 2 ^ 56 by decide)]
    by_cases c : x = CW 1
    · have hF := BH_M hP (g := 3) (by decide) (by decide)
      have fl := bad_Fl hP (g := 3) (by decide) (by decide)
      refine Or.inr ⟨hset hx 7 1 (nI 3), BH hm 3, 3, s, ?_, ?_, ⟨hs_self _ _ _ _, by rw [hs_ne (by omega)]; exact hP.2.2.2.1⟩, fl.2.1, fl.2.2⟩
      · rw [if_pos c, if_n1, show hx (7 + 1) 1 = nI 6 from x1, if_neg (show ¬ nI 6 < 6 by decide), x_faulty, bd_s, gz_0]
        rfl
      · rw [if_pos c]
        unfold f_X8_readArch
        rw [show f_X8_begins 0 0 6 hm = _ from m_begins6 hP (x := 0) (by decide) m0, bd_s, mf_number hF, bd_s, mf_number hF, bd_s, mf_number hF, bd_s, mf_number hF, bd_s, mf_mustEnd hF, bd_s, if_neg (mf_18 hF).1, bd_s, mf_arches hF (by omega)]
    · refine Or.inl ⟨hx, hm, s, e, kk, 6, ?_, ?_, hP, by omega, x1, m0, hA, AF_r hx, BF_r hm⟩
      · rw [if_neg c, if_n0]
      · rw [if_neg c]
  | succ k ih =>
    intro fx fm a s e kk hx hm hi hfx hfm hP x1 m0 hA
    obtain ⟨f, rfl⟩ : ∃ f, fx = f + 1 := ⟨fx - 1, by omega⟩
    obtain ⟨f2, rfl⟩ : ∃ f, fm = f + 1 := ⟨fm - 1, by omega⟩
    obtain ⟨x, hx56, e1, e2⟩ := jw hP
    have ew := e2 1 (by decide)
    rw [f_X4_readArches_17, f_X8_bridge_50, if_neg (show ¬ (6 : Int32) < nI a from nI_nlt (a := 6) (by omega) (by decide)), ew, bd_s, e1, bd_s, show (1634886504 : Int64) = lN (CW 1) from rfl]
    simp only [lg_w hx56 (show CW 1 < 2 ^ 56 by decide)]
    by_cases c : x = CW 1
    · rw [if_pos c, if_n1, if_pos c, show hx (7 + 1) 1 = nI a from x1, if_pos (show nI a < 6 from nI_lt (b := 6) (by omega) (by decide))]
      rcases jarch hP (a := a) (by omega) m0 with ⟨hx2, hm2, s2, e2', k2, j1, j2, j3, j4, j5, j6, j7⟩ | ⟨hx2, hm2, j1, j2, j3⟩
      · have y1 : hx2 8 1 = nI a := by rw [j6 8 1 (by omega) (by omega) (by omega), x1]
        have hP2 : PP (hset hx2 8 1 (nI (a + 1))) hm2 n V s2 e2' k2 := PP_congr j3 (hs_cell _ _ _ _ _ (by decide)) (hs_cell _ _ _ _ _ (by decide)) rfl rfl
        have hA2 : ∀ i, i < a + 1 → AD (hset hx2 8 1 (nI (a + 1))) hm2 i := by
          intro i hi2
          by_cases ci : i = a
          · subst ci
            obtain ⟨u, o, t, l, p1, p2, p3, p4, p5, p6, p7, p8, p9, p10⟩ := j4
            exact ⟨u, o, t, l, p1, p2, p3, p4, p5, by rw [hs_ne (by omega), p6], by rw [hs_ne (by omega), p7], by rw [hs_ne (by omega), p8], by rw [hs_ne (by omega), p9], p10⟩
          · obtain ⟨u, o, t, l, p1, p2, p3, p4, p5, p6, p7, p8, p9, p10, p11, p12, p13⟩ := hA i (by omega)
            exact ⟨u, o, t, l, p1, p2, p3, p4, p5, by rw [hs_ne (by omega), j6 10 i (by omega) (by omega) (by omega), p6], by rw [hs_ne (by omega), j6 10 (6 + i) (by omega) (by omega) (by omega), p7], by rw [hs_ne (by omega), j6 11 i (by omega) (by omega) (by omega), p8], by rw [hs_ne (by omega), j6 12 i (by omega) (by omega) (by omega), p9], by rw [j7 5 _ (by omega) (by omega), p10], by rw [j7 5 _ (by omega) (by omega), p11], by rw [j7 5 _ (by omega) (by omega), p12], by rw [j7 5 _ (by omega) (by omega), p13]⟩
        have ax : AF hx (hset hx2 8 1 (nI (a + 1))) := fun c j q1 q2 m => by rw [hs_ne (by omega), j6 c j (by omega) (by omega) m]
        have am : BF hm hm2 := fun c j q m => by rw [j7 c j (by omega) m]
        have axF : FX hx (hset hx2 8 1 (nI (a + 1))) := fun c j q m => ax c j (by omega) (by omega) m
        have amF : FM hm hm2 := fun c j q m => am c j (fun z => absurd z q) m
        rw [j1, bd_s, if_neg n10, show hx2 (7 + 1) 1 = nI a from y1, nI_1, lt_s2, lt_s2, j2, bd_s]
        rcases ih f f2 (a + 1) s2 e2' k2 (hset hx2 8 1 (nI (a + 1))) hm2 (by omega) (by omega) (by omega) hP2 (hs_self _ _ _ _) j5 hA2 with ⟨hx3, hm3, s3, e3, k3, a3, q1, q2, q3, q4, q5, q6, q7, q8, q9⟩ | ⟨hx3, hm3, g, s', q1, q2, q3, q4, q5⟩
        · exact Or.inl ⟨hx3, hm3, s3, e3, k3, a3, q1, q2, q3, q4, q5, q6, q7, fun c j z1 z2 m => (q8 c j z1 z2 m).trans (ax c j z1 z2 m), fun c j z1 m => (q9 c j z1 m).trans (am c j z1 m)⟩
        · exact Or.inr ⟨hx3, hm3, g, s', q1, q2, q3, FX_t axF q4, FM_t amF q5⟩
      · obtain ⟨⟨g, s', e', F1, F2⟩, F3, F4⟩ := j3
        refine Or.inr ⟨hx2, hm2, g, s', ?_, ?_, F1, F3, F4⟩
        · rw [j1, bd_s, if_pos rfl]
        · rw [j2, bd_s, mf_arches F2 (by omega)]
    · refine Or.inl ⟨hx, hm, s, e, kk, a, ?_, ?_, hP, by omega, x1, m0, hA, AF_r hx, BF_r hm⟩
      · rw [if_neg c, if_n0]
      · rw [if_neg c]
