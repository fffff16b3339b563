/-! ===== what Rel does not speak of ===== -/
theorem rel_gen {hx hm hx2 hm2 : AH} (hR : Rel hx hm) (ex : ∀ c, c ≠ 0 → c ≠ 5 → ¬ (7 ≤ c ∧ c ≤ 16) → ¬ (49 ≤ c ∧ c ≤ 57) → hx2 c = hx c) (em : ∀ c, c ≠ 0 → c ≠ 5 → ¬ (8 ≤ c ∧ c ≤ 15) → hm2 c = hm c) (e10 : hx2 0 10 = hm2 0 1) (e9 : hx2 0 9 = hm2 0 12) (g7 : hm2 0 7 = hm 0 7) (g9 : hm2 0 9 = hm 0 9) (g33 : hm2 0 33 = hm 0 33) (nt : RT (hx2 5 1) (hx2 6) (hm2 0 11) (hm2 7)) (nq : RQ (hx2 56)) : Rel hx2 hm2 := by
  obtain ⟨-, r3, r4, ⟨σ, b1, b2, b3, b4, b5⟩, r6, r7, r8⟩ := hR
  refine ⟨⟨e10, e9⟩, ?_, nt, ⟨σ, ?_⟩, ?_, ?_, ?_⟩
  · rw [ex 2 (by decide) (by decide) (by decide) (by decide), ex 3 (by decide) (by decide) (by decide) (by decide), ex 4 (by decide) (by decide) (by decide) (by decide), em 1 (by decide) (by decide) (by decide), em 2 (by decide) (by decide) (by decide), em 3 (by decide) (by decide) (by decide)]; exact r3
  · unfold RB
    rw [ex 17 (by decide) (by decide) (by decide) (by decide), ex 18 (by decide) (by decide) (by decide) (by decide), ex 19 (by decide) (by decide) (by decide) (by decide), ex 20 (by decide) (by decide) (by decide) (by decide), ex 21 (by decide) (by decide) (by decide) (by decide), ex 22 (by decide) (by decide) (by decide) (by decide), ex 23 (by decide) (by decide) (by decide) (by decide), ex 24 (by decide) (by decide) (by decide) (by decide), ex 25 (by decide) (by decide) (by decide) (by decide), ex 44 (by decide) (by decide) (by decide) (by decide), ex 45 (by decide) (by decide) (by decide) (by decide), ex 46 (by decide) (by decide) (by decide) (by decide), ex 47 (by decide) (by decide) (by decide) (by decide), ex 48 (by decide) (by decide) (by decide) (by decide), em 4 (by decide) (by decide) (by decide), g7, g9, em 6 (by decide) (by decide) (by decide)]; exact ⟨b1, b2, b3, b4, b5⟩
  · rw [ex 26 (by decide) (by decide) (by decide) (by decide), ex 27 (by decide) (by decide) (by decide) (by decide), ex 28 (by decide) (by decide) (by decide) (by decide), ex 29 (by decide) (by decide) (by decide) (by decide), ex 30 (by decide) (by decide) (by decide) (by decide), ex 31 (by decide) (by decide) (by decide) (by decide), ex 32 (by decide) (by decide) (by decide) (by decide), ex 33 (by decide) (by decide) (by decide) (by decide), ex 34 (by decide) (by decide) (by decide) (by decide), em 16 (by decide) (by decide) (by decide), em 17 (by decide) (by decide) (by decide)]; exact r6
  · rw [ex 35 (by decide) (by decide) (by decide) (by decide), ex 36 (by decide) (by decide) (by decide) (by decide), ex 37 (by decide) (by decide) (by decide) (by decide), ex 38 (by decide) (by decide) (by decide) (by decide), ex 39 (by decide) (by decide) (by decide) (by decide), ex 40 (by decide) (by decide) (by decide) (by decide), ex 41 (by decide) (by decide) (by decide) (by decide), ex 42 (by decide) (by decide) (by decide) (by decide), ex 43 (by decide) (by decide) (by decide) (by decide), em 16 (by decide) (by decide) (by decide), em 17 (by decide) (by decide) (by decide)]; exact r7
  · rw [ex 58 (by decide) (by decide) (by decide) (by decide), ex 59 (by decide) (by decide) (by decide) (by decide), g33, em 18 (by decide) (by decide) (by decide), em 16 (by decide) (by decide) (by decide), g7]; exact ⟨r8.1, r8.2.1, nq⟩
theorem hs_at (h : AH) (r k : Nat) (v : Int32) (c j : Nat) : hset h r k v c j = if c = r ∧ j = k then v else h c j := by
  by_cases e : c = r
  · subst e
    by_cases f : j = k
    · subst f; rw [hs_self, if_pos ⟨rfl, rfl⟩]
    · rw [hs_place _ _ _ _ _ f, if_neg (fun z => f z.2)]
  · rw [hs_cell _ _ _ _ _ e, if_neg (fun z => e z.1)]
theorem hs_ne {h : AH} {r k : Nat} {v : Int32} {c j : Nat} (n : c = r → j ≠ k) : hset h r k v c j = h c j := by
  rw [hs_at, if_neg (fun z => n z.1 z.2)]
theorem hs_is {h : AH} {r k : Nat} {v : Int32} {c j : Nat} (n : c = r ∧ j = k) : hset h r k v c j = v := by
  rw [hs_at, if_pos n]
-- frames, place by place
def GX (hx hx2 : AH) : Prop := ∀ c j, (c = 5 → j ≠ 2 ∧ j ≠ 3 ∧ j ≠ 4) → hx2 c j = hx c j
def GM (hm hm2 : AH) : Prop := ∀ c j, (c = 0 → j < 14 ∨ 19 < j) → hm2 c j = hm c j
def FX (hx hx2 : AH) : Prop := ∀ c j, (c < 7 ∨ 16 < c) → (c = 5 → j ≠ 2 ∧ j ≠ 3 ∧ j ≠ 4) → hx2 c j = hx c j
def FM (hm hm2 : AH) : Prop := ∀ c j, c ≠ 5 → (c = 0 → j < 14 ∨ 19 < j) → hm2 c j = hm c j
theorem GX_r (h : AH) : GX h h := fun _ _ _ => rfl
theorem GM_r (h : AH) : GM h h := fun _ _ _ => rfl
theorem FX_r (h : AH) : FX h h := fun _ _ _ _ => rfl
theorem FM_r (h : AH) : FM h h := fun _ _ _ _ => rfl
theorem GX_t {a b c : AH} (h : GX a b) (k : GX b c) : GX a c := fun i j n => (k i j n).trans (h i j n)
theorem GM_t {a b c : AH} (h : GM a b) (k : GM b c) : GM a c := fun i j n => (k i j n).trans (h i j n)
theorem FX_t {a b c : AH} (h : FX a b) (k : FX b c) : FX a c := fun i j n m => (k i j n m).trans (h i j n m)
theorem FM_t {a b c : AH} (h : FM a b) (k : FM b c) : FM a c := fun i j n m => (k i j n m).trans (h i j n m)
theorem GX_F {a b : AH} (h : GX a b) : FX a b := fun i j _ m => h i j m
theorem GM_F {a b : AH} (h : GM a b) : FM a b := fun i j _ m => h i j m
theorem FX_s {h : AH} {r k : Nat} {v : Int32} (hr : 7 ≤ r ∧ r ≤ 16) : FX h (hset h r k v) := fun i j n _ => hs_ne (fun z => by omega)
theorem FM_s {h : AH} {k : Nat} {v : Int32} : FM h (hset h 5 k v) := fun i j n _ => hs_ne (fun z => absurd z n)
theorem jstep {hx hm : AH} {n : Nat} {V : Nat → Nat} {s e k : Nat} (hP : PP hx hm n V s e k) : ∃ hx2 hm2 s2 e2 k2, f_X6_step 5 hx = some ((), hx2) ∧ f_X8_next 0 hm = some ((), hm2) ∧ PP hx2 hm2 n V s2 e2 k2 ∧ GX hx hx2 ∧ GM hm hm2 := by
  obtain ⟨hX, hM, hF, x3, x4, x2, m16, m14, m15, m17, m18⟩ := hP
  have ex := XH_id x3 x4 x2
  have em := MH_id m16 m14 m15 m17
  have en := hF.2.1
  refine ⟨XH hx (tks V n e) (tke V n e) (tkk V n e), MH hm (tks V n e) (tke V n e) (mk5 (tkk V n e)) (tke V n e), tks V n e, tke V n e, tkk V n e, ?_, ?_, ⟨?_, ?_, tk_f V en, XH_r3 _ _ _ _, XH_r4 _ _ _ _, XH_r2 _ _ _ _, MH_r16 _ _ _ _ _, MH_r14 _ _ _ _ _, MH_r15 _ _ _ _ _, MH_r17 _ _ _ _ _, ?_⟩, ?_, ?_⟩
  · have := x_step hX s e k en
    rw [← ex] at this
    exact this
  · have := m_next hM s e (mk5 k) e en
    rw [← em] at this
    exact this
  · exact ⟨hX.1, by rw [XH_r1]; exact hX.2.1, fun j hj => ⟨(hX.2.2 j hj).1, by rw [XH_c _ _ _ _ (show 6 ≠ 5 by decide)]; exact (hX.2.2 j hj).2⟩⟩
  · exact ⟨hM.1, by rw [MH_r _ _ _ _ _ (by decide)]; exact hM.2.1, fun j hj => ⟨(hM.2.2 j hj).1, by rw [MH_c _ _ _ _ _ (show 7 ≠ 0 by decide)]; exact (hM.2.2 j hj).2⟩⟩
  · rw [MH_r _ _ _ _ _ (by decide)]; exact m18
  · intro c j q
    by_cases hc : c = 5
    · have := q hc
      subst hc
      unfold XH
      rw [hput_self, if_neg this.2.1, if_neg this.2.2, if_neg this.1]
    · rw [XH_c _ _ _ _ hc]
  · intro c j q
    by_cases hc : c = 0
    · have := q hc
      subst hc
      exact MH_r _ _ _ _ _ (by omega)
    · rw [MH_c _ _ _ _ _ hc]
-- a fault
def MF (h : AH) (g s e : Nat) : Prop := 1 ≤ g ∧ g ≤ 3 ∧ s ≤ e ∧ e ≤ 500 ∧ h 0 18 = nI g ∧ h 0 19 = nI s ∧ h 0 16 = nI s ∧ h 0 17 = nI e
def XF (h : AH) (g s : Nat) : Prop := h 7 1 = nI g ∧ h 5 3 = nI s
def Fl (hx hm hx2 hm2 : AH) : Prop := (∃ g s e, XF hx2 g s ∧ MF hm2 g s e) ∧ FX hx hx2 ∧ FM hm hm2
theorem Fl_t {hx hm hx1 hm1 hx2 hm2 : AH} (a : FX hx hx1) (b : FM hm hm1) (f : Fl hx1 hm1 hx2 hm2) : Fl hx hm hx2 hm2 := ⟨f.1, FX_t a f.2.1, FM_t b f.2.2⟩
theorem mf_18 {h : AH} {g s e : Nat} (hF : MF h g s e) : ¬ h 0 18 = 0 ∧ ¬ h 0 18 ≤ 0 := by
  have h1 := hF.1
  have h2 := hF.2.1
  rw [hF.2.2.2.2.1]
  exact ⟨nI_ne0 (by omega) (by omega), nI_nle (by omega) (by omega)⟩
theorem MF_c {h h2 : AH} {g s e : Nat} (hF : MF h g s e) (e0 : h2 0 = h 0) : MF h2 g s e := by
  unfold MF at *
  rw [e0]
  exact hF
theorem mf_bad {h : AH} {g s e : Nat} (hF : MF h g s e) (v : Int32) : f_X8_bad 0 v h = some ((), h) := by
  unfold f_X8_bad
  rw [if_neg (mf_18 hF).1]
theorem mf_must9 {h : AH} {g s e : Nat} (hF : MF h g s e) : f_X8_must_9 0 h = some ((), h) := by
  unfold f_X8_must_9
  rw [if_neg (mf_18 hF).1]
theorem mf_must {h : AH} {g s e : Nat} (hF : MF h g s e) (v : Int32) : f_X8_must 0 v h = some ((), h) := by
  unfold f_X8_must
  rw [mf_bad hF, bd_s, mf_must9 hF, ite_self]
theorem mf_mustEnd {h : AH} {g s e : Nat} (hF : MF h g s e) : f_X8_mustEnd 0 h = some ((), h) := by
  unfold f_X8_mustEnd
  rw [if_neg (mf_18 hF).1]
theorem mf_number {h : AH} {g s e : Nat} (hF : MF h g s e) (a b : Int32) : f_X8_number 0 a b h = some (0, h) := by
  unfold f_X8_number
  rw [if_neg (mf_18 hF).2]
theorem mf_name {h : AH} {g s e : Nat} (hF : MF h g s e) : f_X8_name 0 h = some (0, h) := by
  have n56 : ∀ y, f_X8_name_56 0 y h = some (0, h) := fun y => by unfold f_X8_name_56; rw [if_neg (mf_18 hF).1]
  have hl : ∀ (k fuel p : Nat) (x : Int64), p + k = e → k < fuel → f_X8_name_7 0 fuel x (nI p) h = some (0, h) := by
    have h4 := hF.2.2.2.1
    intro k
    induction k with
    | zero =>
      intro fuel p x hp hf
      obtain ⟨f, rfl⟩ : ∃ f, fuel = f + 1 := ⟨fuel - 1, by omega⟩
      rw [f_X8_name_7, hF.2.2.2.2.2.2.2, if_pos (nI_le (by omega) (by omega)), n56]
    | succ k ih =>
      intro fuel p x hp hf
      obtain ⟨f, rfl⟩ : ∃ f, fuel = f + 1 := ⟨fuel - 1, by omega⟩
      have ih' := fun y => ih f (p + 1) y (by omega) (by omega)
      rw [f_X8_name_7, hF.2.2.2.2.2.2.2, if_neg (nI_ge (by omega) (by omega)), ck_nI _ (by omega) (by decide), lt_s2, lt_s2, nI_1, ih', n56, ite_self, ite_self]
  unfold f_X8_name
  rw [hF.2.2.2.2.2.2.1, lt_s2]
  have h3 := hF.2.2.1
  have h4 := hF.2.2.2.1
  exact hl (e - s) fu s 0 (by omega) (fu_ge _ (by omega))
def BH (h : AH) (g : Nat) : AH := hset (hset h 0 18 (nI g)) 0 19 (h 0 16)
theorem m_bad {h : AH} (h18 : h 0 18 = 0) (g : Nat) : f_X8_bad 0 (nI g) h = some ((), BH h g) := by
  unfold f_X8_bad BH
  rw [if_pos h18, lt_s2, lt_s2, hs_place _ _ _ _ _ (by decide)]
theorem BH_M {hx hm : AH} {n : Nat} {V : Nat → Nat} {s e k : Nat} (hP : PP hx hm n V s e k) {g : Nat} (g1 : 1 ≤ g) (g3 : g ≤ 3) : MF (BH hm g) g s e := by
  obtain ⟨hX, hM, hF, x3, x4, x2, m16, m14, m15, m17, m18⟩ := hP
  have h1 := hF.2.1
  have h2 := hX.1
  refine ⟨g1, g3, hF.1, by omega, ?_, ?_, ?_, ?_⟩
  · unfold BH; rw [hs_ne (by omega), hs_self]
  · unfold BH; rw [hs_self, m16]
  · unfold BH; rw [hs_ne (by omega), hs_ne (by omega), m16]
  · unfold BH; rw [hs_ne (by omega), hs_ne (by omega), m17]
theorem BH_G (hm : AH) (g : Nat) : GM hm (BH hm g) := fun c j q => by
  unfold BH
  rw [hs_ne (by omega), hs_ne (by omega)]
theorem bad_Fl {hx hm : AH} {n : Nat} {V : Nat → Nat} {s e k : Nat} (hP : PP hx hm n V s e k) {g : Nat} (g1 : 1 ≤ g) (g3 : g ≤ 3) : Fl hx hm (hset hx 7 1 (nI g)) (BH hm g) :=
  ⟨⟨g, s, e, ⟨hs_self _ _ _ _, by rw [hs_ne (by omega)]; exact hP.2.2.2.1⟩, BH_M hP g1 g3⟩, FX_s (by decide), GM_F (BH_G hm g)⟩
theorem m_must0 {hx hm : AH} {n : Nat} {V : Nat → Nat} {s e k : Nat} (hP : PP hx hm n V s e k) : f_X8_must 0 0 hm = some ((), BH hm 1) := by
  unfold f_X8_must
  rw [if_pos rfl, show (1 : Int32) = nI 1 from rfl, m_bad hP.2.2.2.2.2.2.2.2.2.2, bd_s, mf_must9 (BH_M hP (by decide) (by decide))]
theorem m_must1 {hm hm2 : AH} (h18 : hm 0 18 = 0) (e : f_X8_next 0 hm = some ((), hm2)) : f_X8_must 0 1 hm = some ((), hm2) := by
  unfold f_X8_must f_X8_must_9
  rw [if_neg n10, if_pos h18, e, bd_s]
theorem x_faulty (v : Int32) (h : AH) : f_X4_faulty 7 v h = some (0, hset h 7 1 v) := rfl
theorem P18 {hx hm : AH} {n : Nat} {V : Nat → Nat} {s e k : Nat} (hP : PP hx hm n V s e k) : hm 0 18 = 0 := hP.2.2.2.2.2.2.2.2.2.2
-- the sign
theorem jsign {hx hm : AH} {n : Nat} {V : Nat → Nat} {s e k : Nat} (hP : PP hx hm n V s e k) : (∃ hx2 hm2 s2 e2 k2, f_X4_readSign 7 5 hx = some (1, hx2) ∧ f_X8_mustEnd 0 hm = some ((), hm2) ∧ PP hx2 hm2 n V s2 e2 k2 ∧ GX hx hx2 ∧ GM hm hm2) ∨ (∃ hx2 hm2, f_X4_readSign 7 5 hx = some (0, hx2) ∧ f_X8_mustEnd 0 hm = some ((), hm2) ∧ Fl hx hm hx2 hm2) := by
  have hP' := hP
  obtain ⟨hX, hM, hF, x3, x4, x2, m16, m14, m15, m17, m18⟩ := hP
  have hmk := mk5_eq hF.2.2.1
  have hk4 := hF.2.2.1
  unfold f_X4_readSign f_X8_mustEnd f_X6_isSign
  rw [x2, m15, if_pos m18]
  by_cases c : k = 3
  · obtain ⟨hx2, hm2, s2, e2, k2, j1, j2, j3, j4, j5⟩ := jstep hP'
    refine Or.inl ⟨hx2, hm2, s2, e2, k2, ?_, ?_, j3, j4, j5⟩
    · rw [c, if_pos (show nI 3 = 3 from rfl), bd_s, if_neg n10, j1, bd_s]
    · rw [hmk.2.2.1.mpr c, if_pos (show nI 4 = 4 from rfl), m_must1 m18 j2, bd_s]
  · refine Or.inr ⟨_, _, ?_, ?_, bad_Fl hP' (g := 1) (by decide) (by decide)⟩
    · rw [if_neg (show ¬ nI k = 3 from fun z => c ((nI_eq (by omega) (by decide)).mp z)), bd_s, if_pos rfl, x_faulty, bd_s, gz_0]
      rfl
    · rw [if_neg (show ¬ nI (mk5 k) = 4 from fun z => c (hmk.2.2.1.mp ((nI_eq (by omega) (by decide)).mp z))), m_must0 hP', bd_s]
-- numbers
def dgv (V : Nat → Nat) : Nat → Nat → Nat → Nat
  | 0, _, x => x
  | k + 1, p, x => dgv V k (p + 1) (10 * x + V p - 48)
theorem so_2 {v : Nat} (h : so v = 2) : 48 ≤ v ∧ v ≤ 57 := by
  unfold so at h
  by_cases c : 97 ≤ v ∧ v ≤ 122
  · rw [if_pos c] at h; exact absurd h (by decide)
  · rw [if_neg c] at h
    by_cases c2 : 48 ≤ v ∧ v ≤ 57
    · exact c2
    · rw [if_neg c2] at h
      by_cases c3 : v = 59
      · rw [if_pos c3] at h; exact absurd h (by decide)
      · rw [if_neg c3] at h; exact absurd h (by decide)
theorem dgv_step {x v k : Nat} (hv : 48 ≤ v ∧ v ≤ 57) (hx : (x + 1) * 10 ^ (k + 1) ≤ 1000) : (10 * x + v - 48 + 1) * 10 ^ k ≤ 1000 ∧ x < 1000 := by
  have hk : 0 < 10 ^ k := Nat.pow_pos (by decide)
  have e1 : (x + 1) * 10 ^ (k + 1) = (10 * x + 10) * 10 ^ k := by
    rw [Nat.pow_succ, Nat.mul_comm (10 ^ k) 10, ← Nat.mul_assoc, show (x + 1) * 10 = 10 * x + 10 by omega]
  have h2 : (10 * x + v - 48 + 1) * 10 ^ k ≤ (10 * x + 10) * 10 ^ k := Nat.mul_le_mul_right _ (by omega)
  have h3 : 10 * x + 10 ≤ (10 * x + 10) * 10 ^ k := Nat.le_mul_of_pos_right _ hk
  omega
theorem dgv_lt (V : Nat → Nat) : ∀ (k p x : Nat), (∀ j, p ≤ j → j < p + k → so (V j) = 2) → (x + 1) * 10 ^ k ≤ 1000 → dgv V k p x < 1000 := by
  intro k
  induction k with
  | zero => intro p x _ hx; rw [Nat.pow_zero, Nat.mul_one] at hx; unfold dgv; omega
  | succ k ih =>
    intro p x hv hx
    have h1 := so_2 (hv p (by omega) (by omega))
    unfold dgv
    exact ih (p + 1) _ (fun j a b => hv j (by omega) (by omega)) (dgv_step h1 hx).1
theorem i_dig {x v : Nat} (hv : 48 ≤ v ∧ v ≤ 57) : (10 : Int32) * nI x + nI v - 48 = nI (10 * x + v - 48) := by
  rw [show (10 : Int32) = nI 10 from rfl, show (48 : Int32) = nI 48 from rfl, pk_mul, nI_add, pk_sub (by omega)]
theorem x_numLoop {h : AH} {n : Nat} {V : Nat → Nat} (hT : XT h n V) {s e : Nat} (h3 : h 5 3 = nI s) (h4 : h 5 4 = nI e) (he : e ≤ n) (hse : e - s ≤ 3) (hso : ∀ j, s ≤ j → j < e → so (V j) = 2) : ∀ (k fuel p x : Nat), s ≤ p → p + k = e → k < fuel → (x + 1) * 10 ^ k ≤ 1000 → f_X6_numberTold_7 5 fuel (nI x) (nI p) h = some (nI (dgv V k p x), h) := by
  have hn := hT.1
  intro k
  induction k with
  | zero =>
    intro fuel p x hs hp hf hx
    obtain ⟨f, rfl⟩ : ∃ f, fuel = f + 1 := ⟨fuel - 1, by omega⟩
    rw [f_X6_numberTold_7, h4, if_pos (nI_le (by omega) (by omega))]
    rfl
  | succ k ih =>
    intro fuel p x hs hp hf hx
    obtain ⟨f, rfl⟩ : ∃ f, fuel = f + 1 := ⟨fuel - 1, by omega⟩
    have hb := hT.2.2 p (by omega)
    have h2 := hso p (by omega) (by omega)
    have hd := so_2 h2
    rw [f_X6_numberTold_7, h4, if_neg (nI_ge (by omega) (by omega)), h3, show (3 : Int32) = nI 3 from rfl, nI_add, if_neg (nI_ge (by omega) (by omega)), ck_nI _ (by omega) (by decide), cl_nI (by omega), show h (5 + 1) p = sb (V p) from hb.2, sb_n _ hb.1 (by omega), i_dig hd, lt_s2, lt_s2, nI_1]
    exact ih f (p + 1) _ (by omega) (by omega) (by omega) (dgv_step hd hx).1
theorem m_figLoop {h : AH} {n : Nat} {V : Nat → Nat} (hT : MT h n V) {e : Nat} (h15 : h 0 15 = nI 3) (h17 : h 0 17 = nI e) (he : e ≤ n) {s : Nat} (hso : ∀ j, s ≤ j → j < e → so (V j) = 2) : ∀ (k fuel p x : Nat), s ≤ p → p + k = e → k < fuel → (x + 1) * 10 ^ k ≤ 1000 → f_X8_figures_7 0 fuel (nI x) (nI p) h = some (nI (dgv V k p x), h) := by
  have hn := hT.1
  intro k
  induction k with
  | zero =>
    intro fuel p x hs hp hf hx
    obtain ⟨f, rfl⟩ : ∃ f, fuel = f + 1 := ⟨fuel - 1, by omega⟩
    rw [f_X8_figures_7, h17, if_pos (nI_le (by omega) (by omega))]
    rfl
  | succ k ih =>
    intro fuel p x hs hp hf hx
    obtain ⟨f, rfl⟩ : ∃ f, fuel = f + 1 := ⟨fuel - 1, by omega⟩
    have hb := hT.2.2 p (by omega)
    have hd := so_2 (hso p (by omega) (by omega))
    rw [f_X8_figures_7, h17, if_neg (nI_ge (by omega) (by omega)), h15, if_pos (show nI 3 = 3 from rfl), ck_nI _ (by omega) (by decide), cl_nI (by omega), show h (0 + 7) p = nI (V p) from hb.2, i_dig hd, lt_s2, lt_s2, nI_1]
    exact ih f (p + 1) _ (by omega) (by omega) (by omega) (dgv_step hd hx).1
theorem m_inN {v lo hi : Nat} (hv : v < 1000) (hl : lo < 1000) (hh : hi < 1000) (h : AH) : f_X8_in (nI v).toInt64 (nI lo).toInt64 (nI hi).toInt64 h = some (nI (if lo ≤ v ∧ v ≤ hi then 1 else 0), h) := by
  rw [m_inI (nI v) (nI lo) (nI hi) (by rw [w_toInt]) (by rw [w_toInt])]
  by_cases c1 : lo ≤ v
  · rw [if_neg (nI_nlt c1 (by omega))]
    by_cases c2 : v ≤ hi
    · rw [if_neg (nI_nlt c2 (by omega)), if_pos ⟨c1, c2⟩]; rfl
    · rw [if_pos (nI_lt (by omega) (by omega)), if_neg (fun z => c2 z.2)]; rfl
  · rw [if_pos (nI_lt (by omega) (by omega)), if_neg (fun z => c1 z.1)]; rfl
theorem jnum {hx hm : AH} {n : Nat} {V : Nat → Nat} {s e k : Nat} (hP : PP hx hm n V s e k) {lo hi r n4 j : Nat} {A B C : Int32} (eA : A = nI lo) (eB : B = nI hi) (eC : C = nI j) (hhi : hi ≤ 30) (hlo : lo ≤ hi) (hr : 9 ≤ r ∧ r ≤ 15) (hj : j < n4) (hn4 : n4 ≤ 24) : (∃ v hx2 hm2 s2 e2 k2, lo ≤ v ∧ v ≤ hi ∧ f_X4_readNumber 7 5 A B r n4 C hx = some (1, hx2) ∧ f_X8_number 0 A B hm = some (nI v, hm2) ∧ PP hx2 hm2 n V s2 e2 k2 ∧ GX (hset hx r j (nI v)) hx2 ∧ GM hm hm2) ∨ (∃ v hx2 hm2, f_X4_readNumber 7 5 A B r n4 C hx = some (0, hx2) ∧ f_X8_number 0 A B hm = some (v, hm2) ∧ Fl hx hm hx2 hm2) := by
  subst eA eB eC
  have hP' := hP
  obtain ⟨hX, hM, hF, x3, x4, x2, m16, m14, m15, m17, m18⟩ := hP
  have hmk := mk5_eq hF.2.2.1
  have hk4 := hF.2.2.1
  have hse := hF.1
  have hen := hF.2.1
  have hn := hX.1
  unfold f_X4_readNumber f_X8_number f_X6_isNumber
  rw [x2, if_pos (show hm 0 18 ≤ 0 by rw [m18]; decide)]
  by_cases c : k = 2
  · have hso : ∀ i, s ≤ i → i < e → so (V i) = 2 := fun i h1 h2 => by rw [hF.2.2.2.1 (Or.inr c) i h1 h2, c]
    have h3 := hF.2.2.2.2 c
    have m15' : hm 0 15 = nI 3 := by rw [m15, hmk.2.1.mpr c]
    have hpw : (0 + 1) * 10 ^ (e - s) ≤ 1000 := by
      rcases (show e - s = 0 ∨ e - s = 1 ∨ e - s = 2 ∨ e - s = 3 by omega) with z | z | z | z <;> rw [z] <;> decide
    have hd := dgv_lt V (e - s) s 0 (fun i a b => hso i a (by omega)) hpw
    have ex1 : f_X6_numberTold 5 hx = some (nI (dgv V (e - s) s 0), hx) := by
      unfold f_X6_numberTold
      rw [x3, lt_s2]
      exact x_numLoop hX x3 x4 hen h3 hso (e - s) fu s 0 (Nat.le_refl _) (by omega) (fu_ge _ (by omega)) hpw
    have em1 : f_X8_figures 0 hm = some (nI (dgv V (e - s) s 0), hm) := by
      unfold f_X8_figures
      rw [m16, lt_s2]
      exact m_figLoop hM m15' m17 hen hso (e - s) fu s 0 (Nat.le_refl _) (by omega) (fu_ge _ (by omega)) hpw
    generalize dgv V (e - s) s 0 = v at hd ex1 em1
    rw [c, if_pos (show nI 2 = 2 from rfl), bd_s, if_neg n10, ex1, bd_s, em1, bd_s, m15', if_pos (show nI 3 = 3 from rfl), m_inN hd (by omega) (by omega), bd_s]
    by_cases c1 : lo ≤ v
    · rw [if_neg (nI_nlt c1 (by omega))]
      by_cases c2 : v ≤ hi
      · have hPs : PP (hset hx r j (nI v)) hm n V s e k := PP_congr hP' (hs_cell _ _ _ _ _ (by omega)) (hs_cell _ _ _ _ _ (by omega)) rfl rfl
        obtain ⟨hx2, hm2, s2, e2, k2, j1, j2, j3, j4, j5⟩ := jstep hPs
        refine Or.inl ⟨v, hx2, hm2, s2, e2, k2, c1, c2, ?_, ?_, j3, j4, j5⟩
        · rw [if_pos (nI_le c2 (by omega)), ck_nI _ hj (by omega), cl_nI (by omega), lt_s2, j1, bd_s]
        · rw [if_pos (show lo ≤ v ∧ v ≤ hi from ⟨c1, c2⟩), if_n1]
          unfold f_X8_number_39
          rw [m15', if_pos (show nI 3 = 3 from rfl), m_must1 m18 j2, bd_s]
      · refine Or.inr ⟨nI v, _, _, ?_, ?_, bad_Fl hP' (g := 2) (by decide) (by decide)⟩
        · rw [if_neg (nI_ge (by omega) (by omega)), x_faulty, bd_s, gz_0]
          rfl
        · rw [if_neg (show ¬ (lo ≤ v ∧ v ≤ hi) from fun z => c2 z.2), if_n0, show (2 : Int32) = nI 2 from rfl, m_bad m18, bd_s]
          unfold f_X8_number_39
          rw [mf_must (BH_M hP' (by decide) (by decide)), mf_must (BH_M hP' (by decide) (by decide)), bd_s, ite_self]
    · refine Or.inr ⟨nI v, _, _, ?_, ?_, bad_Fl hP' (g := 2) (by decide) (by decide)⟩
      · rw [if_pos (nI_lt (by omega) (by omega)), x_faulty, bd_s, gz_0]
        rfl
      · rw [if_neg (show ¬ (lo ≤ v ∧ v ≤ hi) from fun z => c1 z.1), if_n0, show (2 : Int32) = nI 2 from rfl, m_bad m18, bd_s]
        unfold f_X8_number_39
        rw [mf_must (BH_M hP' (by decide) (by decide)), mf_must (BH_M hP' (by decide) (by decide)), bd_s, ite_self]
  · have n3 : ¬ hm 0 15 = 3 := by
      rw [m15]
      exact fun z => c (hmk.2.1.mp ((nI_eq (by omega) (by decide)).mp z))
    have em1 : f_X8_figures 0 hm = some (0, hm) := by
      obtain ⟨f, hf⟩ := fu_s 1 (by decide)
      unfold f_X8_figures
      rw [lt_s2, hf, f_X8_figures_7, if_neg n3, ite_self]
    refine Or.inr ⟨0, _, _, ?_, ?_, bad_Fl hP' (g := 1) (by decide) (by decide)⟩
    · rw [if_neg (show ¬ nI k = 2 from fun z => c ((nI_eq (by omega) (by decide)).mp z)), bd_s, if_pos rfl, x_faulty, bd_s, gz_0]
      rfl
    · rw [em1, bd_s, if_neg n3]
      unfold f_X8_number_39
      rw [if_neg n3, m_must0 hP', bd_s]
