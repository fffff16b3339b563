/-! ===== matchings ===== -/
def cnt (S : Nat → Bool) : Nat → Nat
  | 0 => 0
  | n + 1 => cnt S n + (if S n = true then 1 else 0)
theorem cnt_s (S : Nat → Bool) (n : Nat) : cnt S (n + 1) = cnt S n + (if S n = true then 1 else 0) := rfl
theorem cnt_congr {S T : Nat → Bool} : ∀ {n : Nat}, (∀ i, i < n → S i = T i) → cnt S n = cnt T n := by
  intro n
  induction n with
  | zero => intro _; rfl
  | succ n ih =>
    intro h
    rw [cnt_s, cnt_s, ih (fun i hi => h i (by omega)), h n (by omega)]
theorem cnt_le (S : Nat → Bool) : ∀ n, cnt S n ≤ n := by
  intro n
  induction n with
  | zero => exact Nat.le_refl _
  | succ n ih => rw [cnt_s]; split <;> omega
theorem cnt_del {B : Nat → Bool} {j : Nat} (hj : B j = true) : ∀ {m : Nat}, j < m → cnt (fun i => B i && decide (i ≠ j)) m + 1 = cnt B m := by
  intro m
  induction m with
  | zero => intro h; omega
  | succ m ih =>
    intro h
    rw [cnt_s, cnt_s]
    by_cases c : j = m
    · subst c
      rw [cnt_congr (S := fun i => B i && decide (i ≠ j)) (T := B) (fun i hi => by rw [decide_eq_true (show i ≠ j by omega), Bool.and_true])]
      simp [hj]
    · have h1 := ih (by omega)
      have e : (B m && decide (m ≠ j)) = B m := by rw [decide_eq_true (show m ≠ j by omega), Bool.and_true]
      simp only [e]
      omega
theorem cnt_rel : ∀ (n : Nat) (A B : Nat → Bool) (m : Nat) (R : Nat → Nat → Prop), (∀ i, i < n → A i = true → ∃ j, j < m ∧ B j = true ∧ R i j) → (∀ i k j, i < n → k < n → A i = true → A k = true → R i j → R k j → i = k) → cnt A n ≤ cnt B m := by
  intro n
  induction n with
  | zero => intro A B m R _ _; exact Nat.zero_le _
  | succ n ih =>
    intro A B m R h1 h2
    rw [cnt_s]
    by_cases c : A n = true
    · rw [if_pos c]
      obtain ⟨j, j1, j2, j3⟩ := h1 n (by omega) c
      have h := ih A (fun i => B i && decide (i ≠ j)) m R (fun i hi ha => by
        obtain ⟨k, k1, k2, k3⟩ := h1 i (by omega) ha
        refine ⟨k, k1, ?_, k3⟩
        have : k ≠ j := fun e => by
          subst e
          have := h2 i n k (by omega) (by omega) ha c k3 j3
          omega
        show (B k && decide (k ≠ j)) = true
        rw [k2, decide_eq_true this, Bool.and_true]) (fun i k j hi hk => h2 i k j (by omega) (by omega))
      have := cnt_del j2 j1
      omega
    · rw [if_neg c, Nat.add_zero]
      exact ih A B m R (fun i hi => h1 i (by omega)) (fun i k j hi hk => h2 i k j (by omega) (by omega))
theorem cnt_mono {A B : Nat → Bool} {n : Nat} (h : ∀ i, i < n → A i = true → B i = true) : cnt A n ≤ cnt B n :=
  cnt_rel n A B n (fun i j => i = j) (fun i hi ha => ⟨i, hi, h i hi ha, rfl⟩) (fun i k j _ _ _ _ a b => a.trans b.symm)
theorem cnt_onto {n : Nat} {A : Nat → Bool} {R : Nat → Nat → Prop} (h1 : ∀ i, i < n → A i = true → ∃ j, j < n ∧ A j = true ∧ R i j) (h2 : ∀ i k j, i < n → k < n → A i = true → A k = true → R i j → R k j → i = k) {j0 : Nat} (hj : j0 < n) (ha : A j0 = true) : ∃ i, i < n ∧ A i = true ∧ R i j0 := by
  apply Classical.byContradiction
  intro hn
  have h := cnt_rel n A (fun i => A i && decide (i ≠ j0)) n R (fun i hi hai => by
    obtain ⟨k, k1, k2, k3⟩ := h1 i hi hai
    refine ⟨k, k1, ?_, k3⟩
    have : k ≠ j0 := fun e => hn ⟨i, hi, hai, by rw [← e]; exact k3⟩
    show (A k && decide (k ≠ j0)) = true
    rw [k2, decide_eq_true this, Bool.and_true]) h2
  have := cnt_del ha hj
  omega
def Mt (E : Nat → Nat → Prop) (S : Nat → Bool) (f : Nat → Nat) : Prop := (∀ b, S b = true → E b (f b)) ∧ ∀ b c, S b = true → S c = true → f b = f c → b = c
def Wi (S : Nat → Bool) (lo hi : Nat) : Prop := ∀ i, S i = true → lo ≤ i ∧ i < hi
/-- c is the greatest number of boats, of those from lo to hi, that can have places -/
def Gr (E : Nat → Nat → Prop) (lo hi c : Nat) : Prop := (∃ S f, Wi S lo hi ∧ Mt E S f ∧ cnt S 6 = c) ∧ ∀ X g, Wi X lo hi → Mt E X g → cnt X 6 ≤ c
theorem Gr_u {E : Nat → Nat → Prop} {lo hi c d : Nat} (h : Gr E lo hi c) (k : Gr E lo hi d) : c = d := by
  obtain ⟨⟨S, f, s1, s2, s3⟩, s4⟩ := h
  obtain ⟨⟨T, g, t1, t2, t3⟩, t4⟩ := k
  have := s4 T g t1 t2
  have := t4 S f s1 s2
  omega
theorem Gr_c {E F : Nat → Nat → Prop} {lo hi c : Nat} (e : ∀ b p, lo ≤ b → b < hi → (E b p ↔ F b p)) (h : Gr E lo hi c) : Gr F lo hi c := by
  obtain ⟨⟨S, f, s1, s2, s3⟩, s4⟩ := h
  refine ⟨⟨S, f, s1, ⟨fun b hb => (e b _ (s1 b hb).1 (s1 b hb).2).mp (s2.1 b hb), s2.2⟩, s3⟩, fun X g x1 x2 => s4 X g x1 ⟨fun b hb => (e b _ (x1 b hb).1 (x1 b hb).2).mpr (x2.1 b hb), x2.2⟩⟩
theorem Gr_le {E : Nat → Nat → Prop} {lo hi c : Nat} (h : Gr E lo hi c) : c ≤ 6 := by
  obtain ⟨⟨S, f, s1, s2, s3⟩, s4⟩ := h
  have := cnt_le S 6
  omega
/-- what stands while boats are placed one after the other: Z holds those that found none, and is closed -/
def Iv (E : Nat → Nat → Prop) (lo b : Nat) (S : Nat → Bool) (f : Nat → Nat) (Z : Nat → Bool) : Prop := Wi S lo b ∧ Mt E S f ∧ Wi Z lo b ∧ (∀ i, lo ≤ i → i < b → S i = false → Z i = true) ∧ ∀ i p, Z i = true → E i p → ∃ j, Z j = true ∧ S j = true ∧ f j = p
theorem Iv_0 (E : Nat → Nat → Prop) (lo : Nat) (f : Nat → Nat) : Iv E lo lo (fun _ => false) f (fun _ => false) :=
  ⟨fun i h => Bool.noConfusion h, ⟨fun b h => Bool.noConfusion h, fun b c h => Bool.noConfusion h⟩, fun i h => Bool.noConfusion h, fun i h1 h2 => absurd h2 (by omega), fun i p h => Bool.noConfusion h⟩
theorem Iv_G {E : Nat → Nat → Prop} {lo b : Nat} {S : Nat → Bool} {f : Nat → Nat} {Z : Nat → Bool} (hb : b ≤ 6) (h : Iv E lo b S f Z) : Gr E lo b (cnt S 6) := by
  obtain ⟨h1, h2, h3, h4, h5⟩ := h
  refine ⟨⟨S, f, h1, h2, rfl⟩, fun X g x1 x2 => ?_⟩
  refine cnt_rel 6 X S 6 (fun i j => (Z i = true ∧ Z j = true ∧ f j = g i) ∨ (Z i = false ∧ i = j)) (fun i hi hx => ?_) (fun i k j hi hk ai ak r1 r2 => ?_)
  · cases hz : Z i with
    | true =>
      obtain ⟨j, j1, j2, j3⟩ := h5 i (g i) hz (x2.1 i hx)
      exact ⟨j, by have := (h1 j j2).2; omega, j2, Or.inl ⟨rfl, j1, j3⟩⟩
    | false =>
      have hw := x1 i hx
      cases hs : S i with
      | true => exact ⟨i, hi, hs, Or.inr ⟨rfl, rfl⟩⟩
      | false =>
        have := h4 i hw.1 hw.2 hs
        rw [hz] at this
        exact absurd this (by decide)
  · rcases r1 with ⟨a1, a2, a3⟩ | ⟨a1, a2⟩
    · rcases r2 with ⟨b1, b2, b3⟩ | ⟨b1, b2⟩
      · exact x2.2 i k ai ak (a3.symm.trans b3)
      · rw [b2, a2] at b1; exact absurd b1 (by decide)
    · rcases r2 with ⟨b1, b2, b3⟩ | ⟨b1, b2⟩
      · rw [a2, b2] at a1; exact absurd a1 (by decide)
      · exact a2.trans b2.symm
/-- a boat is placed: whatever the new places are, Z stays closed -/
theorem Iv_y {E : Nat → Nat → Prop} {lo b : Nat} {S : Nat → Bool} {f : Nat → Nat} {Z : Nat → Bool} (hb : b < 6) (hl : lo ≤ b) (h : Iv E lo b S f Z) {S2 : Nat → Bool} {f2 : Nat → Nat} (e : ∀ i, S2 i = (S i || decide (i = b))) (m : Mt E S2 f2) : Iv E lo (b + 1) S2 f2 Z := by
  obtain ⟨h1, h2, h3, h4, h5⟩ := h
  have sub : ∀ i, S i = true → S2 i = true := fun i hi => by rw [e, hi, Bool.true_or]
  refine ⟨fun i hi => ?_, m, fun i hi => ⟨(h3 i hi).1, by have := (h3 i hi).2; omega⟩, fun i i1 i2 i3 => ?_, fun i p hz hE => ?_⟩
  · rw [e] at hi
    cases hs : S i with
    | true => have := h1 i hs; omega
    | false =>
      rw [hs, Bool.false_or] at hi
      have := of_decide_eq_true hi
      omega
  · rw [e] at i3
    by_cases c : i = b
    · rw [decide_eq_true c, Bool.or_true] at i3; exact absurd i3 (by decide)
    · rw [decide_eq_false c, Bool.or_false] at i3
      exact h4 i i1 (by omega) i3
  · obtain ⟨j, j1, j2, j3⟩ := h5 i p hz hE
    obtain ⟨k, k1, k2, k3⟩ := cnt_onto (n := 6) (A := fun i => Z i && S i) (R := fun i j => f2 i = f j) (fun i hi ha => by
      have ha' : Z i = true ∧ S i = true := by simpa using ha
      obtain ⟨z, z1, z2, z3⟩ := h5 i (f2 i) ha'.1 (m.1 i (sub i ha'.2))
      exact ⟨z, by have := (h1 z z2).2; omega, by simp [z1, z2], z3.symm⟩) (fun i k j hi hk ai ak r1 r2 => by
      have ai' : Z i = true ∧ S i = true := by simpa using ai
      have ak' : Z k = true ∧ S k = true := by simpa using ak
      exact m.2 i k (sub i ai'.2) (sub k ak'.2) (r1.trans r2.symm)) (j0 := j) (by have := (h1 j j2).2; omega) (by simp [j1, j2])
    have k2' : Z k = true ∧ S k = true := by simpa using k2
    exact ⟨k, k2'.1, sub k k2'.2, k3.trans j3⟩
theorem Iv_n {E : Nat → Nat → Prop} {lo b : Nat} {S : Nat → Bool} {f : Nat → Nat} {Z : Nat → Bool} (hl : lo ≤ b) (h : Iv E lo b S f Z) {W : Nat → Bool} (w1 : W b = true) (w2 : ∀ i, W i = true → i = b ∨ S i = true) (w3 : ∀ i p, W i = true → E i p → ∃ j, W j = true ∧ S j = true ∧ f j = p) : Iv E lo (b + 1) S f (fun i => Z i || W i) := by
  obtain ⟨h1, h2, h3, h4, h5⟩ := h
  refine ⟨fun i hi => ⟨(h1 i hi).1, by have := (h1 i hi).2; omega⟩, h2, fun i hi => ?_, fun i i1 i2 i3 => ?_, fun i p hz hE => ?_⟩
  · have hi' : Z i = true ∨ W i = true := by simpa using hi
    rcases hi' with q | q
    · have := h3 i q; omega
    · rcases w2 i q with r | r
      · omega
      · have := h1 i r; omega
  · by_cases c : i = b
    · subst c; simp [w1]
    · simp [h4 i i1 (by omega) i3]
  · have hz' : Z i = true ∨ W i = true := by simpa using hz
    rcases hz' with q | q
    · obtain ⟨j, j1, j2, j3⟩ := h5 i p q hE
      exact ⟨j, by simp [j1], j2, j3⟩
    · obtain ⟨j, j1, j2, j3⟩ := w3 i p q hE
      exact ⟨j, by simp [j1], j2, j3⟩
/-- two sides that never stand in each other's way -/
theorem cnt_split (X : Nat → Bool) (d : Nat → Bool) : ∀ n, cnt X n = cnt (fun i => X i && !d i) n + cnt (fun i => X i && d i) n := by
  intro n
  induction n with
  | zero => rfl
  | succ n ih =>
    rw [cnt_s, cnt_s, cnt_s, ih]
    cases hx : X n <;> cases hd : d n <;> simp <;> omega
theorem Gr_two {E : Nat → Nat → Prop} {lo hi c0 c1 : Nat} {d : Nat → Bool} (hd : ∀ b c p, E b p → E c p → d b = d c) (h0 : Gr (fun b p => d b = false ∧ E b p) lo hi c0) (h1 : Gr (fun b p => d b = true ∧ E b p) lo hi c1) : Gr E lo hi (c0 + c1) := by
  obtain ⟨⟨S, f, s1, s2, s3⟩, s4⟩ := h0
  obtain ⟨⟨T, g, t1, t2, t3⟩, t4⟩ := h1
  have sd : ∀ i, S i = true → d i = false := fun i h => (s2.1 i h).1
  have td : ∀ i, T i = true → d i = true := fun i h => (t2.1 i h).1
  have U0 : ∀ i, d i = false → T i = false := fun i h => by
    cases ht : T i with
    | true => have := td i ht; rw [h] at this; exact absurd this (by decide)
    | false => rfl
  have U1 : ∀ i, d i = true → S i = false := fun i h => by
    cases hs : S i with
    | true => have := sd i hs; rw [h] at this; exact absurd this (by decide)
    | false => rfl
  refine ⟨⟨fun i => S i || T i, fun i => if d i = true then g i else f i, fun i hi => ?_, ⟨fun b hb => ?_, fun b c hb hc e => ?_⟩, ?_⟩, fun X k x1 x2 => ?_⟩
  · have hi' : S i = true ∨ T i = true := by simpa using hi
    rcases hi' with q | q
    · exact s1 i q
    · exact t1 i q
  · have hb' : S b = true ∨ T b = true := by simpa using hb
    rcases hb' with q | q
    · show E b (if d b = true then g b else f b)
      rw [sd b q, if_neg (by decide)]; exact (s2.1 b q).2
    · show E b (if d b = true then g b else f b)
      rw [td b q, if_pos rfl]; exact (t2.1 b q).2
  · have hb' : S b = true ∨ T b = true := by simpa using hb
    have hc' : S c = true ∨ T c = true := by simpa using hc
    have e' : (if d b = true then g b else f b) = (if d c = true then g c else f c) := e
    rcases hb' with q | q
    · rcases hc' with r | r
      · rw [sd b q, sd c r, if_neg (by decide), if_neg (by decide)] at e'
        exact s2.2 b c q r e'
      · rw [sd b q, td c r, if_neg (by decide), if_pos rfl] at e'
        have := hd b c (f b) (s2.1 b q).2 (by rw [e']; exact (t2.1 c r).2)
        rw [sd b q, td c r] at this
        exact absurd this (by decide)
    · rcases hc' with r | r
      · rw [td b q, sd c r, if_pos rfl, if_neg (by decide)] at e'
        have := hd b c (g b) (t2.1 b q).2 (by rw [e']; exact (s2.1 c r).2)
        rw [td b q, sd c r] at this
        exact absurd this (by decide)
      · rw [td b q, td c r, if_pos rfl, if_pos rfl] at e'
        exact t2.2 b c q r e'
  · rw [cnt_split (fun i => S i || T i) d 6, cnt_congr (S := fun i => (S i || T i) && !d i) (T := S) (fun i _ => by
      cases hdi : d i with
      | true => simp [U1 i hdi]
      | false => simp [U0 i hdi]), cnt_congr (S := fun i => (S i || T i) && d i) (T := T) (fun i _ => by
      cases hdi : d i with
      | true => simp [U1 i hdi]
      | false => simp [U0 i hdi]), s3, t3]
  · rw [cnt_split X d 6]
    have a := s4 (fun i => X i && !d i) k (fun i hi => x1 i (show X i = true ∧ d i = false by simpa using hi).1) ⟨fun b hb => by
        have hb' : X b = true ∧ d b = false := by simpa using hb
        exact ⟨hb'.2, x2.1 b hb'.1⟩, fun b c hb hc e => by
        have hb' : X b = true ∧ d b = false := by simpa using hb
        have hc' : X c = true ∧ d c = false := by simpa using hc
        exact x2.2 b c hb'.1 hc'.1 e⟩
    have b := t4 (fun i => X i && d i) k (fun i hi => x1 i (show X i = true ∧ d i = true by simpa using hi).1) ⟨fun b hb => by
        have hb' : X b = true ∧ d b = true := by simpa using hb
        exact ⟨hb'.2, x2.1 b hb'.1⟩, fun b c hb hc e => by
        have hb' : X b = true ∧ d b = true := by simpa using hb
        have hc' : X c = true ∧ d c = true := by simpa using hc
        exact x2.2 b c hb'.1 hc'.1 e⟩
    omega
/-- the first boat of the row: it goes with one less, or the number stays -/
theorem Gr_next {E : Nat → Nat → Prop} {lo hi n c : Nat} (h : Gr E lo hi n) (k : Gr E (lo + 1) hi c) (hn : ∀ p m, E lo p → Gr (fun b q => E b q ∧ q ≠ p) (lo + 1) hi m → m + 1 ≠ n) (hg : ∀ p, E lo p → ∃ m, Gr (fun b q => E b q ∧ q ≠ p) (lo + 1) hi m) (h6 : hi ≤ 6) : c = n := by
  obtain ⟨⟨S, f, s1, s2, s3⟩, s4⟩ := h
  obtain ⟨⟨T, g, t1, t2, t3⟩, t4⟩ := k
  have le1 := s4 T g (fun i hi => ⟨by have := (t1 i hi).1; omega, (t1 i hi).2⟩) t2
  cases hs : S lo with
  | false =>
    have := t4 S f (fun i hi => ⟨by
      have := (s1 i hi).1
      have : i ≠ lo := fun e => by rw [e, hs] at hi; exact absurd hi (by decide)
      omega, (s1 i hi).2⟩) s2
    omega
  | true =>
    have hlo := s1 lo hs
    have hE := s2.1 lo hs
    obtain ⟨m, hm⟩ := hg (f lo) hE
    have h1 := hm.2 (fun i => S i && decide (i ≠ lo)) f (fun i hi => by
      have hi' : S i = true ∧ i ≠ lo := by simpa using hi
      have := s1 i hi'.1
      exact ⟨by have := hi'.2; omega, this.2⟩) ⟨fun b hb => by
        have hb' : S b = true ∧ b ≠ lo := by simpa using hb
        exact ⟨s2.1 b hb'.1, fun e => hb'.2 (s2.2 b lo hb'.1 hs e)⟩, fun b c hb hc e => by
        have hb' : S b = true ∧ b ≠ lo := by simpa using hb
        have hc' : S c = true ∧ c ≠ lo := by simpa using hc
        exact s2.2 b c hb'.1 hc'.1 e⟩
    have h2 := cnt_del hs (m := 6) (by omega)
    have h3 := hn (f lo) m hE hm
    obtain ⟨⟨U, u, u1, u2, u3⟩, u4⟩ := hm
    have h4 := t4 U u u1 ⟨fun b hb => (u2.1 b hb).1, u2.2⟩
    omega
