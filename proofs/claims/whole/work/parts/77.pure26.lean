/-! ===== bits of an int; more of matchings; what may change beside Rel ===== -/
def bt (x : Int32) (i : Nat) : Bool := x.toBitVec.getLsbD i
theorem bt_and (x y : Int32) (i : Nat) : bt (x &&& y) i = (bt x i && bt y i) := by
  unfold bt; rw [Int32.toBitVec_and, BitVec.getLsbD_and]
theorem bt_or (x y : Int32) (i : Nat) : bt (x ||| y) i = (bt x i || bt y i) := by
  unfold bt; rw [Int32.toBitVec_or, BitVec.getLsbD_or]
theorem bt_not (x : Int32) {i : Nat} (h : i < 32) : bt (x ^^^ (-1)) i = !bt x i := by
  unfold bt
  rw [Int32.toBitVec_xor, BitVec.getLsbD_xor]
  have e : (-1 : Int32).toBitVec = BitVec.allOnes 32 := by decide
  rw [e, BitVec.getLsbD_allOnes, decide_eq_true h, Bool.xor_true]
theorem bt_0 (i : Nat) : bt 0 i = false := by
  unfold bt
  rw [show (0 : Int32).toBitVec = 0#32 from by decide]
  simp
theorem bt_hi (x : Int32) {i : Nat} (h : 32 ≤ i) : bt x i = false := BitVec.getLsbD_of_ge _ _ h
theorem bt_ext {x y : Int32} (h : ∀ i, i < 32 → bt x i = bt y i) : x = y := Int32.toBitVec_inj.mp (BitVec.eq_of_getLsbD_eq h)
theorem bt_z {x : Int32} : x = 0 ↔ ∀ i, i < 32 → bt x i = false :=
  ⟨fun h i _ => by rw [h, bt_0], fun h => bt_ext (fun i hi => by rw [h i hi, bt_0])⟩
theorem bt_one : ∀ j, j < 12 → ∀ i, i < 32 → bt (1 <<< (nI j &&& 31)) i = decide (i = j) := by decide +kernel
theorem bt_nz {x : Int32} (h : ¬ x = 0) : ∃ t, t < 32 ∧ bt x t = true := by
  apply Classical.byContradiction
  intro hn
  refine h (bt_z.mpr (fun i hi => ?_))
  cases hb : bt x i with
  | false => rfl
  | true => exact absurd ⟨i, hi, hb⟩ hn
theorem bt_low {x : Int32} (h : ¬ x = 0) : ∃ t, t < 32 ∧ bt x t = true ∧ ∀ i, i < 32 → bt (x &&& (-x)) i = decide (i = t) := by
  obtain ⟨t, t1, t2⟩ := pk_least (fun t => bt x t = true) (let ⟨t, _, q⟩ := bt_nz h; ⟨t, q⟩)
  have t3 : t < 32 := by
    apply Classical.byContradiction
    intro hn
    have := bt_hi x (i := t) (by omega)
    rw [t1] at this
    exact absurd this (by decide)
  refine ⟨t, t3, t1, fun i hi => ?_⟩
  have e : bt (-x) i = (bt x i ^^ (decide (i < 32) && decide (∃ j, j < i ∧ bt x j = true))) := by
    unfold bt
    rw [Int32.toBitVec_neg, BitVec.getLsbD_neg]
  rw [bt_and, e, decide_eq_true hi, Bool.true_and]
  by_cases c : i = t
  · subst c
    rw [t1, decide_eq_false (fun ⟨j, j1, j2⟩ => t2 j j1 j2)]
    simp
  · rw [decide_eq_false c]
    cases hx : bt x i with
    | false => rfl
    | true =>
      have lt1 : t < i := by
        apply Classical.byContradiction
        intro hn
        exact t2 i (by omega) hx
      rw [decide_eq_true ⟨t, lt1, t1⟩]
      rfl
/-- boats that were asked, as bits -/
def ab (s i : Nat) : Bool := decide (s / 2 ^ i % 2 = 1)
theorem ab_new : ∀ j, j < 6 → (1 : Int32) <<< (nI j &&& 31) = nI (2 ^ j) := by decide +kernel
theorem ab_or : ∀ s, s < 64 → ∀ j, j < 6 → ab s j = false → (nI s ||| ((1 : Int32) <<< (nI j &&& 31))) = nI (s + 2 ^ j) ∧ s + 2 ^ j < 64 := by decide +kernel
theorem ab_add : ∀ s, s < 64 → ∀ j, j < 6 → ab s j = false → ∀ i, i < 6 → ab (s + 2 ^ j) i = (ab s i || decide (i = j)) := by decide +kernel
theorem ab_pow : ∀ j, j < 6 → ∀ i, i < 6 → ab (2 ^ j) i = decide (i = j) := by decide +kernel
theorem ab_p64 : ∀ j, j < 6 → 2 ^ j < 64 := by decide +kernel
theorem ab_hi {s i : Nat} (h : s < 64) (hi : 6 ≤ i) : ab s i = false := by
  unfold ab
  have : 2 ^ 6 ≤ 2 ^ i := Nat.pow_le_pow_right (by decide) hi
  rw [Nat.div_eq_of_lt (by omega)]
  rfl
theorem x_askd {s j : Nat} (hs : s < 64) (hj : j < 6) (h : AH) : f_X7_bitOf (nI s) (nI j) h = some (nI (if ab s j = true then 1 else 0), h) := by
  unfold f_X7_bitOf
  rw [bit_of s hs j hj]
  congr 3
  unfold ab
  by_cases c : s / 2 ^ j % 2 = 1
  · rw [c]; rfl
  · rw [decide_eq_false c, if_neg (by decide)]; omega
theorem cnt_all : ∀ n, cnt (fun _ => true) n = n := by
  intro n
  induction n with
  | zero => rfl
  | succ n ih => rw [cnt_s, ih]; rfl
theorem cnt_add {S T : Nat → Bool} {b n : Nat} (hb : b < n) (hs : S b = false) (e : ∀ i, i < n → T i = (S i || decide (i = b))) : cnt T n = cnt S n + 1 := by
  have h1 : T b = true := by rw [e b hb]; simp
  have h := cnt_del h1 hb
  rw [← h, cnt_congr (S := fun i => T i && decide (i ≠ b)) (T := S) (fun i hi => ?_)]
  show (T i && decide (i ≠ b)) = S i
  rw [e i hi]
  by_cases c : i = b
  · subst c; simp [hs]
  · simp [c]
theorem cnt_inj {m n : Nat} {g : Nat → Nat} (h1 : ∀ i, i < m → g i < n) (h2 : ∀ i j, i < m → j < m → g i = g j → i = j) : m ≤ n := by
  have := cnt_rel m (fun _ => true) (fun _ => true) n (fun i j => g i = j) (fun i hi _ => ⟨g i, h1 i hi, rfl, rfl⟩) (fun i k j hi hk _ _ a b => h2 i k hi hk (a.trans b.symm))
  rwa [cnt_all, cnt_all] at this
noncomputable def cb (P : Prop) : Bool := @decide P (Classical.propDecidable P)
theorem cb_t {P : Prop} : cb P = true ↔ P := @decide_eq_true_iff P (Classical.propDecidable P)
theorem cb_f {P : Prop} : cb P = false ↔ ¬ P := @decide_eq_false_iff_not P (Classical.propDecidable P)
theorem Gr_ex (E : Nat → Nat → Prop) (lo hi : Nat) : ∃ c, Gr E lo hi c := by
  have key : ∀ k, (∀ X g, Wi X lo hi → Mt E X g → cnt X 6 ≤ k) → ∃ c, Gr E lo hi c := by
    intro k
    induction k with
    | zero =>
      intro h
      exact ⟨0, ⟨fun _ => false, fun _ => 0, fun i h => Bool.noConfusion h, ⟨fun b h => Bool.noConfusion h, fun b c h => Bool.noConfusion h⟩, rfl⟩, h⟩
    | succ k ih =>
      intro h
      by_cases hc : ∃ S f, Wi S lo hi ∧ Mt E S f ∧ cnt S 6 = k + 1
      · exact ⟨k + 1, hc, h⟩
      · refine ih (fun X g x1 x2 => ?_)
        have h1 := h X g x1 x2
        have h2 : cnt X 6 ≠ k + 1 := fun e => hc ⟨X, g, x1, x2, e⟩
        omega
  exact key 6 (fun X g _ _ => cnt_le X 6)
theorem Gr_skip {E : Nat → Nat → Prop} {lo hi n : Nat} (h : Gr E lo hi n) (hn : ∀ p, ¬ E lo p) (h6 : hi ≤ 6) : Gr E (lo + 1) hi n := by
  obtain ⟨c, k⟩ := Gr_ex E (lo + 1) hi
  have := Gr_next h k (fun p m hE _ => absurd hE (hn p)) (fun p hE => absurd hE (hn p)) h6
  rw [← this]; exact k
theorem rel_fore {hx hm hx2 hm2 : AH} (hR : Rel hx hm) (ex : ∀ c, (c < 49 ∨ 57 < c) → hx2 c = hx c) (em : ∀ c, c ≠ 0 → (c < 8 ∨ 15 < c) → hm2 c = hm c) (e0 : ∀ k, k ≠ 0 → k ≠ 26 → k ≠ 27 → hm2 0 k = hm 0 k) (hq : RQ (hx2 56)) : Rel hx2 hm2 := by
  obtain ⟨⟨r1, r2⟩, r3, r4, ⟨σ, b1, b2, b3, b4, b5⟩, r6, r7, r8⟩ := hR
  refine ⟨?_, ?_, ?_, ⟨σ, ?_⟩, ?_, ?_, ?_⟩
  · rw [ex 0 (by omega), e0 1 (by decide) (by decide) (by decide), e0 12 (by decide) (by decide) (by decide)]; exact ⟨r1, r2⟩
  · rw [ex 2 (by omega), ex 3 (by omega), ex 4 (by omega), em 1 (by decide) (by omega), em 2 (by decide) (by omega), em 3 (by decide) (by omega)]; exact r3
  · rw [ex 5 (by omega), ex 6 (by omega), e0 11 (by decide) (by decide) (by decide), em 7 (by decide) (by omega)]; exact r4
  · unfold RB
    rw [ex 17 (by omega), ex 18 (by omega), ex 19 (by omega), ex 20 (by omega), ex 21 (by omega), ex 22 (by omega), ex 23 (by omega), ex 24 (by omega), ex 25 (by omega), ex 44 (by omega), ex 45 (by omega), ex 46 (by omega), ex 47 (by omega), ex 48 (by omega), em 4 (by decide) (by omega), em 6 (by decide) (by omega), e0 7 (by decide) (by decide) (by decide), e0 9 (by decide) (by decide) (by decide)]
    exact ⟨b1, b2, b3, b4, b5⟩
  · rw [ex 26 (by omega), ex 27 (by omega), ex 28 (by omega), ex 29 (by omega), ex 30 (by omega), ex 31 (by omega), ex 32 (by omega), ex 33 (by omega), ex 34 (by omega), em 16 (by decide) (by omega), em 17 (by decide) (by omega)]; exact r6
  · rw [ex 35 (by omega), ex 36 (by omega), ex 37 (by omega), ex 38 (by omega), ex 39 (by omega), ex 40 (by omega), ex 41 (by omega), ex 42 (by omega), ex 43 (by omega), em 16 (by decide) (by omega), em 17 (by decide) (by omega)]; exact r7
  · refine ⟨?_, ?_, hq⟩
    · rw [ex 58 (by omega), ex 59 (by omega), e0 33 (by decide) (by decide) (by decide), em 18 (by decide) (by omega)]; exact r8.1
    · rw [em 16 (by decide) (by omega), e0 7 (by decide) (by decide) (by decide)]; exact r8.2.1
/-! ===== who may be where ===== -/
def q_Eg (σ : Sg) (lo hi : Nat) (ch : Nat → Nat) (b p : Nat) : Prop := (b < σ 0 1 ∧ σ 10 b = 0) ∧ p < 144 ∧ p / 72 = sd σ b ∧ (lo ≤ p % 72 / 6 ∧ p % 72 / 6 ≤ hi) ∧ p % 6 < σ 0 0 ∧ ltb σ b (p % 6) (p % 72 / 6) (if p / 72 = 0 then ch (p % 6) else σ 3 (p % 6)) = 1
def q_ET (σ : Sg) (lo hi : Nat) (ch : Nat → Nat) (T : Nat → Bool) (b p : Nat) : Prop := q_Eg σ lo hi ch b p ∧ T p = false
theorem none_ne {n : Nat} (h : n < 2 ^ 31) : ¬ nI n = -1000000 := by
  intro e
  have := congrArg Int32.toInt e
  rw [nI_toInt h] at this
  have e2 : (-1000000 : Int32).toInt = -1000000 := by decide
  omega
theorem rg_out {j n : Nat} (h : n ≤ j) (hj : j < 2 ^ 31) : rg (nI j) n = 0 := by
  unfold rg
  rw [if_neg (nI_pos hj), if_pos (nI_le h hj)]
theorem vb_1 : vp_nar .boolean 1 = 1 := by decide
theorem vb_0 : vp_nar .boolean 0 = 0 := by decide
