-- boats
def LD (hx hm : AH) (b t : Nat) : Prop := ∃ v, v ≤ 9 ∧ hx 15 (4 * b + t) = nI v ∧ hm 5 (58 + 7 * b + 2 + t) = nI v
def qLX (b : Nat) (hx hx2 : AH) : Prop := ∀ c j, (c = 15 → j < 4 * b ∨ 4 * b + 4 ≤ j) → (c = 5 → j ≠ 2 ∧ j ≠ 3 ∧ j ≠ 4) → hx2 c j = hx c j
def qLM (b : Nat) (hm hm2 : AH) : Prop := ∀ c j, (c = 5 → j < 60 + 7 * b ∨ 64 + 7 * b ≤ j) → (c = 0 → j < 14 ∨ 19 < j) → hm2 c j = hm c j
theorem qLX_F {b : Nat} {h k : AH} (z : qLX b h k) : FX h k := fun c j n m => z c j (by omega) m
theorem qLM_F {b : Nat} {h k : AH} (z : qLM b h k) : FM h k := fun c j n m => z c j (fun q => absurd q n) m
theorem mf_boat72 {g s e p : Nat} (hp : p ≤ 93) (x1 x3 : Int32) : ∀ (k fuel i : Nat) (hm : AH), i + k = 4 → k < fuel → MF hm g s e → ∃ hm2, f_X8_readBoat_72 0 fuel x1 (nI p) x3 (nI i) hm = some ((), hm2) ∧ MF hm2 g s e ∧ FM hm hm2 := by
  intro k
  induction k with
  | zero =>
    intro fuel i hm hi hf hF
    obtain ⟨f, rfl⟩ : ∃ f, fuel = f + 1 := ⟨fuel - 1, by omega⟩
    refine ⟨hm, ?_, hF, FM_r hm⟩
    rw [f_X8_readBoat_72, if_pos (show (4 : Int32) ≤ nI i from nI_le (a := 4) (by omega) (by omega)), mf_mustEnd hF, bd_s, if_neg (mf_18 hF).1]
  | succ k ih =>
    intro fuel i hm hi hf hF
    obtain ⟨f, rfl⟩ : ∃ f, fuel = f + 1 := ⟨fuel - 1, by omega⟩
    obtain ⟨hm2, z1, z2, z3⟩ := ih f (i + 1) (hset hm 5 (p + 2 + i) 0) (by omega) (by omega) (MF_c hF (hs_cell _ _ _ _ _ (by decide)))
    refine ⟨hm2, ?_, z2, FM_t FM_s z3⟩
    rw [f_X8_readBoat_72, if_neg (show ¬ (4 : Int32) ≤ nI i from nI_ge (b := 4) (by omega) (by decide)), mf_number hF, bd_s, if_neg (mf_18 hF).1, show (2 : Int32) = nI 2 from rfl, nI_add, nI_add, lt_s2, ck_nI _ (by omega) (by decide), cl_nI (by omega), lt_s2, lt_s2, nI_1]
    exact z1
theorem jloads {n : Nat} {V : Nat → Nat} {b : Nat} (hb : b < 6) (q m : Nat) : ∀ (k fx fm i s e kk : Nat) (hx hm : AH), i + k = 4 → k < fx → k < fm → PP hx hm n V s e kk → hm 5 1 = nI b → (∀ t, t < i → LD hx hm b t) → (∃ hx2 hm2 s2 e2 k2, f_X4_readBoat_58 7 5 fx (nI b) (nI i) hx = some (1, hx2) ∧ f_X8_readBoat_72 0 fm (nI q) (nI (58 + 7 * b)) (nI m) (nI i) hm = some ((), hset (hset (hset hm2 5 (58 + 7 * b) (nI q)) 5 (58 + 7 * b + 1) (nI m)) 5 1 (nI (b + 1))) ∧ PP hx2 hm2 n V s2 e2 k2 ∧ (∀ t, t < 4 → LD hx2 hm2 b t) ∧ qLX b hx hx2 ∧ qLM b hm hm2) ∨ (∃ hx2 hm2, f_X4_readBoat_58 7 5 fx (nI b) (nI i) hx = some (0, hx2) ∧ f_X8_readBoat_72 0 fm (nI q) (nI (58 + 7 * b)) (nI m) (nI i) hm = some ((), hm2) ∧ Fl hx hm hx2 hm2) := by
  intro k
  induction k with
  | zero =>
    intro fx fm i s e kk hx hm hi hfx hfm hP hb1 hT
    obtain ⟨f, rfl⟩ : ∃ f, fx = f + 1 := ⟨fx - 1, by omega⟩
    obtain ⟨f2, rfl⟩ : ∃ f, fm = f + 1 := ⟨fm - 1, by omega⟩
    rw [f_X4_readBoat_58, f_X8_readBoat_72, if_pos (show (4 : Int32) ≤ nI i from nI_le (a := 4) (by omega) (by omega)), if_pos (show (4 : Int32) ≤ nI i from nI_le (a := 4) (by omega) (by omega))]
    rcases jsign hP with ⟨hx2, hm2, s2, e2, k2, j1, j2, j3, j4, j5⟩ | ⟨hx2, hm2, j1, j2, j3⟩
    · have hb2 : hm2 5 1 = nI b := by rw [j5 5 1 (by omega), hb1]
      refine Or.inl ⟨hx2, hm2, s2, e2, k2, ?_, ?_, j3, fun t ht => ?_, fun c j _ m => j4 c j m, fun c j _ m => j5 c j m⟩
      · rw [j1, bd_s, gz_1]
      · rw [j2, bd_s, if_pos (P18 j3)]
        simp (disch := omega) only [lt_s2, bd_s, bh_s, gz_0, gz_1, L0, L1, L2, L3, L4, L5, L6, L7, L8, L9, L10, L11, L12, L13, L14, L15, L16, L17, L18, L19, L20, L21, L22, L23, L24, L30, L31, L32, L36, L39, L40, L48, L57, L58, L59, L71, L72, L97, L99, L100, L122, L143, L144, L255, L320, L500, L720, L1000, L2300, L2400, nI_add, pk_mul, nI_leI, nI_ltI, nI_eqI, ck_nI, cl_nI, Nat.zero_add, Nat.add_zero, Nat.reduceAdd, Nat.reduceMul, if_pos, if_neg, if_true, if_false, hb2, hs_ne]
      · obtain ⟨v, v1, v2, v3⟩ := hT t (by omega)
        exact ⟨v, v1, by rw [j4 15 _ (by omega), v2], by rw [j5 5 _ (by omega), v3]⟩
    · obtain ⟨⟨g, s', e', F1, F2⟩, F3, F4⟩ := j3
      refine Or.inr ⟨hx2, hm2, ?_, ?_, ⟨g, s', e', F1, F2⟩, F3, F4⟩
      · rw [j1, bd_s, gz_0]
      · rw [j2, bd_s, if_neg (mf_18 F2).1]
  | succ k ih =>
    intro fx fm i s e kk hx hm hi hfx hfm hP hb1 hT
    obtain ⟨f, rfl⟩ : ∃ f, fx = f + 1 := ⟨fx - 1, by omega⟩
    obtain ⟨f2, rfl⟩ : ∃ f, fm = f + 1 := ⟨fm - 1, by omega⟩
    rw [f_X4_readBoat_58, f_X8_readBoat_72, if_neg (show ¬ (4 : Int32) ≤ nI i from nI_ge (b := 4) (by omega) (by decide)), if_neg (show ¬ (4 : Int32) ≤ nI i from nI_ge (b := 4) (by omega) (by decide)), x_ldpl (d := b) (a := i) rfl rfl, bd_s]
    rcases jnum hP (lo := 0) (hi := 9) (r := 7 + 1 + 7) (n4 := 24) (j := 4 * b + i) (A := 0) (B := 9) (C := nI (4 * b + i)) rfl rfl rfl (by decide) (by decide) (by decide) (by omega) (by decide) with ⟨v, hx2, hm2, s2, e2, k2, lv, vh, j1, j2, j3, j4, j5⟩ | ⟨v, hx2, hm2, j1, j2, j3⟩
    · have hP2 : PP hx2 (hset hm2 5 (58 + 7 * b + 2 + i) (nI v)) n V s2 e2 k2 := PP_congr j3 rfl rfl (hs_cell _ _ _ _ _ (by decide)) (hs_cell _ _ _ _ _ (by decide))
      have hb2 : hset hm2 5 (58 + 7 * b + 2 + i) (nI v) 5 1 = nI b := by rw [hs_ne (by omega), j5 5 1 (by omega), hb1]
      have hT2 : ∀ t, t < i + 1 → LD hx2 (hset hm2 5 (58 + 7 * b + 2 + i) (nI v)) b t := by
        intro t ht
        by_cases c : t = i
        · exact ⟨v, vh, by rw [c, j4 15 _ (by omega), hs_is ⟨rfl, rfl⟩], by rw [c, hs_is ⟨rfl, rfl⟩]⟩
        · obtain ⟨w, w1, w2, w3⟩ := hT t (by omega)
          exact ⟨w, w1, by rw [j4 15 _ (by omega), hs_ne (by omega), w2], by rw [hs_ne (by omega), j5 5 _ (by omega), w3]⟩
      have ax : qLX b hx hx2 := fun c j q m => by rw [j4 c j m, hs_ne (by omega)]
      have am : qLM b hm (hset hm2 5 (58 + 7 * b + 2 + i) (nI v)) := fun c j q m => by rw [hs_ne (by omega), j5 c j m]
      rw [j1, bd_s, if_neg n10, lt_s2, nI_1, j2, bd_s, if_pos (P18 j3), show (2 : Int32) = nI 2 from rfl, nI_add, nI_add, lt_s2, ck_nI _ (by omega) (by decide), cl_nI (by omega), lt_s2, lt_s2]
      rcases ih f f2 (i + 1) s2 e2 k2 hx2 (hset hm2 5 (58 + 7 * b + 2 + i) (nI v)) (by omega) (by omega) (by omega) hP2 hb2 hT2 with ⟨hx3, hm3, s3, e3, k3, q1, q2, q3, q4, q5, q6⟩ | ⟨hx3, hm3, q1, q2, q3⟩
      · exact Or.inl ⟨hx3, hm3, s3, e3, k3, q1, q2, q3, q4, fun c j q m => (q5 c j q m).trans (ax c j q m), fun c j q m => (q6 c j q m).trans (am c j q m)⟩
      · exact Or.inr ⟨hx3, hm3, q1, q2, Fl_t (qLX_F ax) (qLM_F am) q3⟩
    · obtain ⟨⟨g, s', e', F1, F2⟩, F3, F4⟩ := j3
      obtain ⟨hm3, z1, z2, z3⟩ := mf_boat72 (p := 58 + 7 * b) (by omega) (nI q) (nI m) k f2 (i + 1) (hset hm2 5 (58 + 7 * b + 2 + i) 0) (by omega) (by omega) (MF_c F2 (hs_cell _ _ _ _ _ (by decide)))
      refine Or.inr ⟨hx2, hm3, ?_, ?_, ⟨g, s', e', F1, z2⟩, F3, FM_t F4 (FM_t FM_s z3)⟩
      · rw [j1, bd_s, if_pos rfl]
      · rw [j2, bd_s, if_neg (mf_18 F2).1, show (2 : Int32) = nI 2 from rfl, nI_add, nI_add, lt_s2, ck_nI _ (by omega) (by decide), cl_nI (by omega), lt_s2, lt_s2, nI_1]
        exact z1
def kd (x : Nat) : Nat := if x = CW 3 then 1 else if x = CW 4 then 2 else if x = CW 5 then 3 else if x = CW 6 then 4 else if x = CW 7 then 5 else 0
theorem kd_le (x : Nat) : kd x ≤ 5 := by unfold kd; (repeat' split) <;> omega
theorem x_sortTold {hx : AH} {x : Nat} (h : ∀ r, r < 8 → f_X6_isWord 5 r hx = some (nI (if x = CW r then 1 else 0), hx)) : f_X4_sortTold 7 5 hx = some (nI (kd x), hx) := by
  have h3 := h 3 (by decide)
  have h4 := h 4 (by decide)
  have h5 := h 5 (by decide)
  have h6 := h 6 (by decide)
  have h7 := h 7 (by decide)
  unfold f_X4_sortTold kd
  rw [h3, bd_s]
  by_cases c3 : x = CW 3
  · rw [if_pos c3, if_pos c3, if_n1]; rfl
  rw [if_neg c3, if_neg c3, if_n0, h4, bd_s]
  by_cases c4 : x = CW 4
  · rw [if_pos c4, if_pos c4, if_n1]; rfl
  rw [if_neg c4, if_neg c4, if_n0, h5, bd_s]
  by_cases c5 : x = CW 5
  · rw [if_pos c5, if_pos c5, if_n1]; rfl
  rw [if_neg c5, if_neg c5, if_n0, h6, bd_s]
  by_cases c6 : x = CW 6
  · rw [if_pos c6, if_pos c6, if_n1]; rfl
  rw [if_neg c6, if_neg c6, if_n0, h7, bd_s]
  by_cases c7 : x = CW 7
  · rw [if_pos c7, if_pos c7, if_n1]; rfl
  rw [if_neg c7, if_neg c7, if_n0]; rfl
theorem m_kindBy {x : Nat} (hx : x < 2 ^ 56) (h : AH) : f_X8_kindBy (lN x) h = some (if kd x = 0 then -1000000 else nI (kd x), h) := by
  unfold f_X8_kindBy kd
  rw [show (422541682533 : Int64) = lN (CW 3) from rfl, show (6516583 : Int64) = lN (CW 4) from rfl, show (1918985844 : Int64) = lN (CW 5) from rfl, show (1667330676 : Int64) = lN (CW 6) from rfl, show (2002872686 : Int64) = lN (CW 7) from rfl]
  simp only [lg_w hx (show CW 3 < 2 ^ 56 by decide), lg_w hx (show CW 4 < 2 ^ 56 by decide), lg_w hx (show CW 5 < 2 ^ 56 by decide), lg_w hx (show CW 6 < 2 ^ 56 by decide), lg_w hx (show CW 7 < 2 ^ 56 by decide)]
  by_cases c3 : x = CW 3
  · simp only [if_pos c3]; rfl
  simp only [if_neg c3]
  by_cases c4 : x = CW 4
  · simp only [if_pos c4]; rfl
  simp only [if_neg c4]
  by_cases c5 : x = CW 5
  · simp only [if_pos c5]; rfl
  simp only [if_neg c5]
  by_cases c6 : x = CW 6
  · simp only [if_pos c6]; rfl
  simp only [if_neg c6]
  by_cases c7 : x = CW 7
  · simp only [if_pos c7]; rfl
  simp only [if_neg c7]; rfl
def BD (hx hm : AH) (b : Nat) : Prop := ∃ q m, 1 ≤ q ∧ q ≤ 5 ∧ m ≤ 20 ∧ hx 13 b = nI q ∧ hx 14 b = nI m ∧ hm 5 (58 + 7 * b) = nI q ∧ hm 5 (58 + 7 * b + 1) = nI m ∧ ∀ t, t < 4 → LD hx hm b t
def qBX (b : Nat) (hx hx2 : AH) : Prop := ∀ c j, (c = 13 ∨ c = 14 → j ≠ b) → (c = 15 → j < 4 * b ∨ 4 * b + 4 ≤ j) → (c = 5 → j ≠ 2 ∧ j ≠ 3 ∧ j ≠ 4) → hx2 c j = hx c j
def qBM (b : Nat) (hm hm2 : AH) : Prop := ∀ c j, (c = 5 → j ≠ 1 ∧ (j < 58 + 7 * b ∨ 64 + 7 * b ≤ j)) → (c = 0 → j < 14 ∨ 19 < j) → hm2 c j = hm c j
theorem jboat {hx hm : AH} {n : Nat} {V : Nat → Nat} {s e k : Nat} (hP : PP hx hm n V s e k) {b : Nat} (hb : b < 6) (mb : hm 5 1 = nI b) : (∃ hx2 hm2 s2 e2 k2, f_X4_readBoat 7 5 (nI b) hx = some (1, hx2) ∧ f_X8_readBoat 0 hm = some ((), hm2) ∧ PP hx2 hm2 n V s2 e2 k2 ∧ BD hx2 hm2 b ∧ hm2 5 1 = nI (b + 1) ∧ qBX b hx hx2 ∧ qBM b hm hm2) ∨ (∃ hx2 hm2, f_X4_readBoat 7 5 (nI b) hx = some (0, hx2) ∧ f_X8_readBoat 0 hm = some ((), hm2) ∧ Fl hx hm hx2 hm2) := by
  obtain ⟨hx1, hm1, s1, e1, k1, a1, a2, a3, a4, a5⟩ := jstep hP
  obtain ⟨x, hx56, w1, w2⟩ := jw a3
  have k5 := kd_le x
  have mb1 : hm1 5 1 = nI b := by rw [a5 5 1 (by omega), mb]
  unfold f_X4_readBoat f_X8_readBoat
  rw [a1, bd_s, show f_X8_begins 0 1 6 hm = _ from m_begins (x := 1) (P18 hP) (by decide) mb hb a2, bd_s, x_sortTold w2, bd_s, w1, bd_s, m_kindBy hx56, bd_s, if_pos (P18 a3)]
  have fx1 : FX hx hx1 := GX_F a4
  have fm1 : FM hm hm1 := GM_F a5
  by_cases c0 : kd x = 0
  · have hF := BH_M a3 (g := 1) (by decide) (by decide)
    obtain ⟨hm3, z1, z2, z3⟩ := mf_boat72 (p := 58) (by decide) (-1000000) 0 4 fu 0 (BH hm1 1) (by decide) (fu_ge _ (by decide)) hF
    have fl := bad_Fl a3 (g := 1) (by decide) (by decide)
    refine Or.inr ⟨hset hx1 7 1 (nI 1), hm3, ?_, ?_, Fl_t fx1 fm1 ⟨⟨1, s1, e1, ⟨hs_self _ _ _ _, by rw [hs_ne (by omega)]; exact a3.2.2.2.1⟩, z2⟩, fl.2.1, FM_t fl.2.2 z3⟩⟩
    · rw [c0, if_n0, x_faulty, bd_s, gz_0]
      rfl
    · rw [if_pos c0, if_pos rfl]
      unfold f_X8_readBoat_34
      rw [m_must0 a3, bd_s]
      unfold f_X8_readBoat_37
      rw [if_neg (mf_18 hF).1]
      unfold f_X8_readBoat_59
      rw [lt_s2, mf_number hF, bd_s]
      exact z1
  have nk : ¬ nI (kd x) = 0 := nI_ne0 (by omega) (by omega)
  have nk2 : ¬ nI (kd x) = -1000000 := by
    rcases (show kd x = 1 ∨ kd x = 2 ∨ kd x = 3 ∨ kd x = 4 ∨ kd x = 5 by omega) with z | z | z | z | z <;> rw [z] <;> decide
  have hPs : PP (hset hx1 (7 + 1 + 5) b (nI (kd x))) hm1 n V s1 e1 k1 := PP_congr a3 (hs_cell _ _ _ _ _ (by decide)) (hs_cell _ _ _ _ _ (by decide)) rfl rfl
  obtain ⟨hx2, hm2, s2, e2, k2, b1, b2, b3, b4, b5⟩ := jstep hPs
  have mb2 : hm2 5 1 = nI b := by rw [b5 5 1 (by omega), mb1]
  have fx2 : FX hx hx2 := FX_t fx1 (FX_t (FX_s (by decide)) (GX_F b4))
  have fm2 : FM hm hm2 := FM_t fm1 (GM_F b5)
  rw [if_neg nk, ck_nI _ hb (by decide), cl_nI (by omega), lt_s2, b1, bd_s, if_neg c0, if_neg nk2]
  unfold f_X8_readBoat_34
  rw [m_must1 (P18 a3) b2, bd_s]
  unfold f_X8_readBoat_37
  rw [if_pos (P18 b3), show (1 : Int32) = nI 1 from rfl, ck_nI _ (by decide) (by decide), cl_nI (by decide), Nat.zero_add, mb2]
  unfold f_X8_readBoat_59
  rw [show (7 : Int32) = nI 7 from rfl, show (58 : Int32) = nI 58 from rfl, pk_mul, nI_add, lt_s2]
  rcases jnum b3 (lo := 0) (hi := 20) (r := 7 + 1 + 6) (n4 := 6) (j := b) (A := 0) (B := 20) (C := nI b) rfl rfl rfl (by decide) (by decide) (by decide) (by omega) (by decide) with ⟨m, hx3, hm3, s3, e3, k3, -, m20, c1, c2, c3, c4, c5⟩ | ⟨m, hx3, hm3, c1, c2, c3⟩
  rotate_left
  · obtain ⟨⟨g, s', e', F1, F2⟩, F3, F4⟩ := c3
    obtain ⟨hm4, z1, z2, z3⟩ := mf_boat72 (p := 58 + 7 * b) (by omega) (nI (kd x)) m 4 fu 0 hm3 (by decide) (fu_ge _ (by decide)) F2
    refine Or.inr ⟨hx3, hm4, by rw [c1, bd_s, if_pos rfl], ?_, Fl_t fx2 fm2 ⟨⟨g, s', e', F1, z2⟩, F3, FM_t F4 z3⟩⟩
    rw [c2, bd_s]
    exact z1
  have mb3 : hm3 5 1 = nI b := by rw [c5 5 1 (by omega), mb2]
  have fx3 : FX hx hx3 := FX_t fx2 (FX_t (FX_s (by decide)) (GX_F c4))
  have fm3 : FM hm hm3 := FM_t fm2 (GM_F c5)
  rw [c1, bd_s, if_neg n10, c2, bd_s, show (0 : Int32) = nI 0 from rfl]
  rcases jloads hb (kd x) m 4 fu fu 0 s3 e3 k3 hx3 hm3 (by decide) (fu_ge _ (by decide)) (fu_ge _ (by decide)) c3 mb3 (fun t ht => absurd ht (Nat.not_lt_zero t)) with ⟨hx4, hm4, s4, e4, k4, d1, d2, d3, d4, d5, d6⟩ | ⟨hx4, hm4, d1, d2, d3⟩
  · refine Or.inl ⟨hx4, _, s4, e4, k4, d1, d2, ?_, ⟨kd x, m, by omega, k5, m20, ?_, ?_, ?_, ?_, fun t ht => ?_⟩, hs_self _ _ _ _, ?_, ?_⟩
    · exact PP_congr d3 rfl rfl (by rw [hs_cell _ _ _ _ _ (by decide), hs_cell _ _ _ _ _ (by decide), hs_cell _ _ _ _ _ (by decide)]) (by rw [hs_cell _ _ _ _ _ (by decide), hs_cell _ _ _ _ _ (by decide), hs_cell _ _ _ _ _ (by decide)])
    · rw [d5 13 b (by omega) (by omega), c4 13 b (by omega), hs_ne (by omega), b4 13 b (by omega), hs_is ⟨rfl, rfl⟩]
    · rw [d5 14 b (by omega) (by omega), c4 14 b (by omega), hs_is ⟨rfl, rfl⟩]
    · rw [hs_ne (by omega), hs_ne (by omega), hs_self]
    · rw [hs_ne (by omega), hs_self]
    · obtain ⟨v, v1, v2, v3⟩ := d4 t ht
      exact ⟨v, v1, v2, by rw [hs_ne (by omega), hs_ne (by omega), hs_ne (by omega), v3]⟩
    · intro c j q1 q2 m
      rw [d5 c j (by omega) m, c4 c j m, hs_ne (by omega), b4 c j m, hs_ne (by omega), a4 c j m]
    · intro c j q1 m
      rw [hs_ne (by omega), hs_ne (by omega), hs_ne (by omega), d6 c j (by omega) m, c5 c j m, b5 c j m, a5 c j m]
  · exact Or.inr ⟨hx4, hm4, d1, d2, Fl_t fx3 fm3 d3⟩
def YF (hx hx2 : AH) : Prop := ∀ c j, (c = 8 → j ≠ 2) → (c < 13 ∨ 15 < c) → (c = 5 → j ≠ 2 ∧ j ≠ 3 ∧ j ≠ 4) → hx2 c j = hx c j
def ZF (hm hm2 : AH) : Prop := ∀ c j, (c = 5 → j ≠ 1 ∧ (j < 58 ∨ (58 ≤ j ∧ (j - 58) % 7 = 6))) → (c = 0 → j < 14 ∨ 19 < j) → hm2 c j = hm c j
theorem YF_r (h : AH) : YF h h := fun _ _ _ _ _ => rfl
theorem ZF_r (h : AH) : ZF h h := fun _ _ _ _ => rfl
theorem jend {hx hm : AH} {n : Nat} {V : Nat → Nat} {s e k : Nat} (hP : PP hx hm n V s e k) : (f_X4_readBoats_71 7 5 hx = some (1, hx) ∧ (if hm 0 18 = 0 then (if hm 0 15 = 1 then f_X8_bridge_106 0 hm else bd (f_X8_bad 0 1 hm) (fun _ h_3 => f_X8_bridge_106 0 h_3)) else f_X8_bridge_106 0 hm) = f_X8_bridge_106 0 hm) ∨ (f_X4_readBoats_71 7 5 hx = some (0, hset hx 7 1 (nI 1)) ∧ (if hm 0 18 = 0 then (if hm 0 15 = 1 then f_X8_bridge_106 0 hm else bd (f_X8_bad 0 1 hm) (fun _ h_3 => f_X8_bridge_106 0 h_3)) else f_X8_bridge_106 0 hm) = some (-1000100 - nI s, hset (BH hm 1) 0 12 (nI 1))) := by
  have hP' := hP
  obtain ⟨hX, hM, hF, x3, x4, x2, m16, m14, m15, m17, m18⟩ := hP
  have hmk := mk5_eq hF.2.2.1
  have hk4 := hF.2.2.1
  unfold f_X4_readBoats_71 f_X6_isEnd
  rw [x2, m15, if_pos m18]
  by_cases c : k = 4
  · refine Or.inl ⟨?_, ?_⟩
    · rw [c, if_pos (show nI 4 = 4 from rfl), bd_s, if_neg n10]
    · rw [hmk.2.2.2.1.mpr c, if_pos (show nI 1 = 1 from rfl)]
  · have hF2 := BH_M hP' (g := 1) (by decide) (by decide)
    refine Or.inr ⟨?_, ?_⟩
    · rw [if_neg (show ¬ nI k = 4 from fun z => c ((nI_eq (by omega) (by decide)).mp z)), bd_s, if_pos rfl, x_faulty, bd_s, if_pos rfl]
      rfl
    · rw [if_neg (show ¬ nI (mk5 k) = 1 from fun z => c (hmk.2.2.2.1.mp ((nI_eq (by omega) (by decide)).mp z))), show (1 : Int32) = nI 1 from rfl, m_bad m18, bd_s]
      unfold f_X8_bridge_106
      rw [if_neg (mf_18 hF2).2, lt_s2, hs_ne (by omega), hF2.2.2.2.2.1, hF2.2.2.2.2.2.1]
theorem jboats {n : Nat} {V : Nat → Nat} : ∀ (k fx fm b s e kk : Nat) (hx hm : AH), b + k = 6 → k < fx → k + 1 < fm → PP hx hm n V s e kk → hx 8 2 = nI b → hm 5 1 = nI b → (∀ i, i < b → BD hx hm i) → (∃ hx2 hm2 b2, f_X4_readBoats_2 7 5 fx (nI b) hx = some (1, hx2) ∧ f_X8_bridge_68 0 fm hm = f_X8_bridge_106 0 hm2 ∧ hm2 0 18 = 0 ∧ b2 ≤ 6 ∧ hx2 8 2 = nI b2 ∧ hm2 5 1 = nI b2 ∧ (∀ i, i < b2 → BD hx2 hm2 i) ∧ YF hx hx2 ∧ ZF hm hm2) ∨ (∃ hx2 hm2 g s', f_X4_readBoats_2 7 5 fx (nI b) hx = some (0, hx2) ∧ f_X8_bridge_68 0 fm hm = some (-1000100 - nI s', hset hm2 0 12 (nI g)) ∧ XF hx2 g s' ∧ FX hx hx2 ∧ FM hm hm2) := by
  intro k
  induction k with
  | zero =>
    intro fx fm b s e kk hx hm hi hfx hfm hP x1 m0 hA
    obtain ⟨f, rfl⟩ : ∃ f, fx = f + 1 := ⟨fx - 1, by omega⟩
    obtain ⟨f2, rfl⟩ : ∃ f, fm = f + 1 := ⟨fm - 1, by omega⟩
    obtain ⟨x, hx56, e1, e2⟩ := jw hP
    have ew := e2 2 (by decide)
    have hb : b = 6 := by omega
    subst hb
    rw [f_X4_readBoats_2, f_X8_bridge_68, if_neg (show ¬ (6 : Int32) < nI 6 by decide), ew, bd_s, e1, bd_s, show (1651466612 : Int64) = lN (CW 2) from rfl]
    simp only [lg_w hx56 (show CW 2 < 2 ^ 56 by decide)]
    by_cases c : x = CW 2
    · have hF := BH_M hP (g := 3) (by decide) (by decide)
      have fl := bad_Fl hP (g := 3) (by decide) (by decide)
      obtain ⟨hm3, z1, z2, z3⟩ := mf_boat72 (p := 58) (by decide) (-1000000) (nI 0) 4 fu 0 (BH hm 3) (by decide) (fu_ge _ (by decide)) hF
      refine Or.inr ⟨hset hx 7 1 (nI 3), hm3, 3, s, ?_, ?_, ⟨hs_self _ _ _ _, by rw [hs_ne (by omega)]; exact hP.2.2.2.1⟩, fl.2.1, FM_t fl.2.2 z3⟩
      · rw [if_pos c, if_n1, show hx (7 + 1) 2 = nI 6 from x1, if_neg (show ¬ nI 6 < 6 by decide), x_faulty, bd_s, gz_0]
        rfl
      · rw [if_pos c]
        unfold f_X8_readBoat
        rw [show f_X8_begins 0 1 6 hm = _ from m_begins6 hP (x := 1) (by decide) m0, bd_s, mf_name hF, bd_s, show f_X8_kindBy 0 (BH hm 3) = some (-1000000, BH hm 3) from rfl, bd_s, if_neg (mf_18 hF).1]
        unfold f_X8_readBoat_37
        rw [if_neg (mf_18 hF).1]
        unfold f_X8_readBoat_59
        rw [lt_s2, mf_number hF, bd_s, show (58 : Int32) + 0 = nI 58 from rfl, show (0 : Int32) = nI 0 from rfl, z1, bd_s, mf_boats z2 (by omega)]
    · rw [if_neg c, if_n0, if_neg c]
      rcases jend hP with ⟨q1, q2⟩ | ⟨q1, q2⟩
      · exact Or.inl ⟨hx, hm, 6, q1, q2, P18 hP, by omega, x1, m0, hA, YF_r hx, ZF_r hm⟩
      · have fl := bad_Fl hP (g := 1) (by decide) (by decide)
        exact Or.inr ⟨_, _, 1, s, q1, q2, ⟨hs_self _ _ _ _, by rw [hs_ne (by omega)]; exact hP.2.2.2.1⟩, fl.2.1, fl.2.2⟩
  | succ k ih =>
    intro fx fm b s e kk hx hm hi hfx hfm hP x1 m0 hA
    obtain ⟨f, rfl⟩ : ∃ f, fx = f + 1 := ⟨fx - 1, by omega⟩
    obtain ⟨f2, rfl⟩ : ∃ f, fm = f + 1 := ⟨fm - 1, by omega⟩
    obtain ⟨x, hx56, e1, e2⟩ := jw hP
    have ew := e2 2 (by decide)
    rw [f_X4_readBoats_2, f_X8_bridge_68, if_neg (show ¬ (6 : Int32) < nI b from nI_nlt (a := 6) (by omega) (by decide)), ew, bd_s, e1, bd_s, show (1651466612 : Int64) = lN (CW 2) from rfl]
    simp only [lg_w hx56 (show CW 2 < 2 ^ 56 by decide)]
    by_cases c : x = CW 2
    · rw [if_pos c, if_n1, if_pos c, show hx (7 + 1) 2 = nI b from x1, if_pos (show nI b < 6 from nI_lt (b := 6) (by omega) (by decide))]
      rcases jboat hP (b := b) (by omega) m0 with ⟨hx2, hm2, s2, e2', k2, j1, j2, j3, j4, j5, j6, j7⟩ | ⟨hx2, hm2, j1, j2, j3⟩
      · have y1 : hx2 8 2 = nI b := by rw [j6 8 2 (by omega) (by omega) (by omega), x1]
        have hP2 : PP (hset hx2 8 2 (nI (b + 1))) hm2 n V s2 e2' k2 := PP_congr j3 (hs_cell _ _ _ _ _ (by decide)) (hs_cell _ _ _ _ _ (by decide)) rfl rfl
        have hA2 : ∀ i, i < b + 1 → BD (hset hx2 8 2 (nI (b + 1))) hm2 i := by
          intro i hi2
          by_cases ci : i = b
          · subst ci
            obtain ⟨u, o, p1, p2, p3, p4, p5, p6, p7, p8⟩ := j4
            exact ⟨u, o, p1, p2, p3, by rw [hs_ne (by omega), p4], by rw [hs_ne (by omega), p5], p6, p7, fun t ht => by obtain ⟨v, v1, v2, v3⟩ := p8 t ht; exact ⟨v, v1, by rw [hs_ne (by omega), v2], v3⟩⟩
          · obtain ⟨u, o, p1, p2, p3, p4, p5, p6, p7, p8⟩ := hA i (by omega)
            exact ⟨u, o, p1, p2, p3, by rw [hs_ne (by omega), j6 13 i (by omega) (by omega) (by omega), p4], by rw [hs_ne (by omega), j6 14 i (by omega) (by omega) (by omega), p5], by rw [j7 5 _ (by omega) (by omega), p6], by rw [j7 5 _ (by omega) (by omega), p7], fun t ht => by obtain ⟨v, v1, v2, v3⟩ := p8 t ht; exact ⟨v, v1, by rw [hs_ne (by omega), j6 15 _ (by omega) (by omega) (by omega), v2], by rw [j7 5 _ (by omega) (by omega), v3]⟩⟩
        have ax : YF hx (hset hx2 8 2 (nI (b + 1))) := fun c j q1 q2 m => by rw [hs_ne (by omega), j6 c j (by omega) (by omega) m]
        have am : ZF hm hm2 := fun c j q m => by rw [j7 c j (by omega) m]
        have axF : FX hx (hset hx2 8 2 (nI (b + 1))) := fun c j q m => ax c j (by omega) (by omega) m
        have amF : FM hm hm2 := fun c j q m => am c j (fun z => absurd z q) m
        rw [j1, bd_s, if_neg n10, show hx2 (7 + 1) 2 = nI b from y1, nI_1, lt_s2, lt_s2, j2, bd_s]
        rcases ih f f2 (b + 1) s2 e2' k2 (hset hx2 8 2 (nI (b + 1))) hm2 (by omega) (by omega) (by omega) hP2 (hs_self _ _ _ _) j5 hA2 with ⟨hx3, hm3, a3, q1, q2, q3, q4, q5, q6, q7, q8, q9⟩ | ⟨hx3, hm3, g, s', q1, q2, q3, q4, q5⟩
        · exact Or.inl ⟨hx3, hm3, a3, q1, q2, q3, q4, q5, q6, q7, fun c j z1 z2 m => (q8 c j z1 z2 m).trans (ax c j z1 z2 m), fun c j z1 m => (q9 c j z1 m).trans (am c j z1 m)⟩
        · exact Or.inr ⟨hx3, hm3, g, s', q1, q2, q3, FX_t axF q4, FM_t amF q5⟩
      · obtain ⟨⟨g, s', e', F1, F2⟩, F3, F4⟩ := j3
        refine Or.inr ⟨hx2, hm2, g, s', ?_, ?_, F1, F3, F4⟩
        · rw [j1, bd_s, if_pos rfl]
        · rw [j2, bd_s, mf_boats F2 (by omega)]
    · rw [if_neg c, if_n0, if_neg c]
      rcases jend hP with ⟨q1, q2⟩ | ⟨q1, q2⟩
      · exact Or.inl ⟨hx, hm, b, q1, q2, P18 hP, by omega, x1, m0, hA, YF_r hx, ZF_r hm⟩
      · have fl := bad_Fl hP (g := 1) (by decide) (by decide)
        exact Or.inr ⟨_, _, 1, s, q1, q2, ⟨hs_self _ _ _ _, by rw [hs_ne (by omega)]; exact hP.2.2.2.1⟩, fl.2.1, fl.2.2⟩
