/-! ===== the model's search for places ===== -/
theorem q_inN {t lo hi : Nat} (ht : t < 2 ^ 31) (hl : lo < 2 ^ 31) (hh : hi < 2 ^ 31) (h : AH) : f_X8_in (nI t).toInt64 (nI lo).toInt64 (nI hi).toInt64 h = some (if lo ≤ t ∧ t ≤ hi then 1 else 0, h) := by
  unfold f_X8_in
  rw [nI_l ht, nI_l hl, nI_l hh]
  have e0 : (lg_cmp (lN t) (lN lo) < 0) ↔ t < lo := by rw [lg_lt, pk_lLT (by omega) (by omega)]
  have e1 : (0 < lg_cmp (lN t) (lN hi)) ↔ hi < t := by rw [lg_gt, pk_lLT (by omega) (by omega)]
  by_cases q0 : t < lo
  · rw [if_pos (e0.mpr q0), if_neg (by omega)]
  · rw [if_neg (fun q => q0 (e0.mp q))]
    by_cases q1 : hi < t
    · rw [if_pos (e1.mpr q1), if_neg (by omega)]
    · rw [if_neg (fun q => q1 (e1.mp q)), if_pos (by omega)]
def q_MS (h : AH) (σ : Sg) (lo hi : Nat) (ch : Nat → Nat) (T : Nat → Bool) : Prop := MR (h 4) σ ∧ h 0 26 = nI lo ∧ h 0 27 = nI hi ∧ (∀ a, a < σ 0 0 → ch a ≤ 4 ∧ h 14 a = nI (ch a)) ∧ ∀ p, p < 144 → h 9 p = if T p = true then 1 else 0
theorem m_canBe {h : AH} {σ : Sg} {lo hi : Nat} {ch : Nat → Nat} {T : Nat → Bool} (hS : q_MS h σ lo hi ch T) (w : WFs σ) (hl : lo ≤ 11) (hh : hi ≤ 11) {b p : Nat} (hb : b < σ 0 1) (hg : σ 10 b = 0) (hp : p < 144) : ∃ v : Nat, (v = 0 ∨ v = 1) ∧ f_X8_canBe 0 (nI b) (nI p) h = some (nI v, h) ∧ (v = 1 ↔ q_ET σ lo hi ch T b p) := by
  obtain ⟨hM, h26, h27, hc, hT⟩ := hS
  have e1 : (nI p - nI p / 72 * 72) / 6 = nI (p % 72 / 6) := by
    rw [L72, pk_rem (by omega) (by decide) (by decide), L6, pk_div (by omega) (by decide) (by decide)]
  have e2 : nI p - nI p / 6 * 6 = nI (p % 6) := by
    rw [L6, pk_rem (by omega) (by decide) (by decide)]
  have e3 : nI p / 72 = nI (p / 72) := by
    rw [L72, pk_div (by omega) (by decide) (by decide)]
  have hsd := sd_lt σ b
  unfold f_X8_canBe
  rw [lt_s2, lt_s2, e1, e2, e3, h26, h27, q_inN (by omega) (by omega) (by omega), bd_s]
  by_cases c1 : lo ≤ p % 72 / 6 ∧ p % 72 / 6 ≤ hi
  case neg =>
    rw [if_neg c1, if_pos rfl]
    exact ⟨0, Or.inl rfl, rfl, fun q => absurd q (by decide), fun q => absurd q.1.2.2.2.1 c1⟩
  rw [if_pos c1, if_neg n10, m_isArch hM w, bd_s]
  have w0 := w.1
  by_cases c2 : p % 6 < σ 0 0
  case neg =>
    rw [rg_out (by omega) (by omega), if_pos rfl]
    exact ⟨0, Or.inl rfl, rfl, fun q => absurd q (by decide), fun q => absurd q.1.2.2.2.2.1 c2⟩
  rw [rg_in c2 (by omega), if_neg n10, ck_nI _ hp (by decide), cl_nI (by omega), Nat.zero_add, hT p hp]
  cases hTp : T p with
  | true =>
    rw [if_pos rfl, if_neg n10]
    refine ⟨0, Or.inl rfl, rfl, fun q => absurd q (by decide), fun q => ?_⟩
    have := q.2
    rw [hTp] at this
    exact absurd this (by decide)
  | false =>
    rw [if_neg (show ¬ (false = true) by decide), if_pos rfl, m_sideOf hM w hb, bd_s]
    by_cases c3 : p / 72 = sd σ b
    case neg =>
      rw [if_neg (fun q => c3 ((nI_eq (by omega) (by omega)).mp q))]
      exact ⟨0, Or.inl rfl, rfl, fun q => absurd q (by decide), fun q => absurd q.1.2.2.1 c3⟩
    rw [if_pos (congrArg nI c3)]
    have fin : ∀ v, v = ltb σ b (p % 6) (p % 72 / 6) (if p / 72 = 0 then ch (p % 6) else σ 3 (p % 6)) → (v = 1 ↔ q_ET σ lo hi ch T b p) := fun v e =>
      ⟨fun q => ⟨⟨⟨hb, hg⟩, hp, c3, c1, c2, e ▸ q⟩, hTp⟩, fun q => e ▸ q.1.2.2.2.2.2⟩
    by_cases c4 : 72 ≤ p
    · have c5 : ¬ p / 72 = 0 := by omega
      rw [if_pos (show (72 : Int32) ≤ nI p from nI_le (a := 72) c4 (by omega)), L1, m_archOf h (by omega) (by decide), bd_s, (hM.2.2.2.2.2.1 _ c2).2.1, m_mayBy hM w hb c2 (by omega) (wf_a w c2).2.1, bd_s, gz_nI (ltb_01 _ _ _ _ _)]
      exact ⟨_, ltb_01 _ _ _ _ _, rfl, fin _ (by rw [if_neg c5])⟩
    · have c5 : p / 72 = 0 := by omega
      rw [if_neg (show ¬ (72 : Int32) ≤ nI p from nI_ge (b := 72) (by omega) (by decide)), ck_nI _ (by omega) (by decide), cl_nI (by omega), (hc _ c2).2, m_mayBy hM w hb c2 (by omega) (hc _ c2).1, bd_s, gz_nI (ltb_01 _ _ _ _ _)]
      exact ⟨_, ltb_01 _ _ _ _ _, rfl, fin _ (by rw [if_pos c5])⟩
/-- a matching as the model holds it -/
def q_MM (h : AH) (S : Nat → Bool) (f : Nat → Nat) : Prop := (∀ b, S b = true → b < 6 ∧ f b < 144) ∧ (∀ b, b < 6 → h 12 b = if S b = true then nI (f b) else -1000000) ∧ ∀ p, p < 144 → (h 8 p = -1000000 ∧ ∀ b, S b = true → f b ≠ p) ∨ ∃ b, S b = true ∧ f b = p ∧ h 8 p = nI b
/-- the same, but for one place that nobody has -/
def q_MH (h : AH) (S : Nat → Bool) (f : Nat → Nat) (z : Nat) : Prop := (∀ b, S b = true → b < 6 ∧ f b < 144) ∧ (∀ b, b < 6 → h 12 b = if S b = true then nI (f b) else -1000000) ∧ (∀ p, p < 144 → p ≠ z → (h 8 p = -1000000 ∧ ∀ b, S b = true → f b ≠ p) ∨ ∃ b, S b = true ∧ f b = p ∧ h 8 p = nI b) ∧ ∀ b, S b = true → f b ≠ z
theorem m_shift {E : Nat → Nat → Prop} {S : Nat → Bool} {wt : Nat → Nat} (hs0 : S (wt 0) = false) : ∀ (k fuel z : Nat) (h : AH) (f : Nat → Nat), k + 1 < fuel → z < 144 → q_MH h S f z → Mt E S f → h 11 z = nI (wt k) → E (wt k) z → (∀ i, i ≤ k → wt i < 6) → (∀ i, 1 ≤ i → i ≤ k → S (wt i) = true ∧ ∃ j, j < i ∧ h 11 (f (wt i)) = nI (wt j) ∧ E (wt j) (f (wt i))) → (∀ i j, i ≤ k → j ≤ k → wt i = wt j → i = j) → ∃ h' f', f_X8_shift_2 0 fuel (nI z) h = some ((), h') ∧ q_MM h' (fun i => S i || decide (i = wt 0)) f' ∧ Mt E (fun i => S i || decide (i = wt 0)) f' ∧ ∀ c, c ≠ 8 → c ≠ 12 → h' c = h c := by
  intro k
  induction k using Nat.strongRecOn with
  | ind k ih =>
    intro fuel z h f hf hz hH hM h11 hE h6 hch hinj
    obtain ⟨m1, m2, m3, m4⟩ := hH
    obtain ⟨n, rfl⟩ : ∃ n, fuel = n + 1 := ⟨fuel - 1, by omega⟩
    have hk6 := h6 k (Nat.le_refl _)
    rw [f_X8_shift_2, if_neg (none_ne (by omega)), ck_nI _ hz (by decide), cl_nI (by omega), lt_s2, Nat.zero_add, h11, ck_nI _ hk6 (by decide), cl_nI (by omega), lt_s2, m2 _ hk6, ck_nI _ hz (by decide), lt_s2, ck_nI _ hk6 (by decide), lt_s2]
    have c8 : hset (hset h (0 + 8) z (nI (wt k))) (0 + 12) (wt k) (nI z) 8 = upd (h 8) z (nI (wt k)) := by
      rw [hs_cell _ _ _ _ _ (by decide), Nat.zero_add, hs_row]
    have c12 : hset (hset h (0 + 8) z (nI (wt k))) (0 + 12) (wt k) (nI z) 12 = upd (h 12) (wt k) (nI z) := by
      rw [Nat.zero_add, hs_row, hs_cell _ _ _ _ _ (by decide)]
    have co : ∀ c, c ≠ 8 → c ≠ 12 → hset (hset h (0 + 8) z (nI (wt k))) (0 + 12) (wt k) (nI z) c = h c := fun c n1 n2 => by
      rw [hs_cell _ _ _ _ _ (by omega), hs_cell _ _ _ _ _ (by omega)]
    generalize hset (hset h (0 + 8) z (nI (wt k))) (0 + 12) (wt k) (nI z) = g at c8 c12 co ⊢
    by_cases k0 : k = 0
    · subst k0
      rw [hs0, if_neg (by decide)]
      obtain ⟨m, rfl⟩ : ∃ m, n = m + 1 := ⟨n - 1, by omega⟩
      rw [f_X8_shift_2, if_pos rfl]
      have sne : ∀ i, S i = true → i ≠ wt 0 := fun i hi e => by rw [e, hs0] at hi; exact absurd hi (by decide)
      have sor : ∀ i, (S i || decide (i = wt 0)) = true → S i = true ∨ i = wt 0 := fun i hi => by simpa using hi
      refine ⟨g, fun i => if i = wt 0 then z else f i, rfl, ⟨fun b hb => ?_, fun b hb => ?_, fun p hp => ?_⟩, ⟨fun b hb => ?_, fun b c hb hc e => ?_⟩, co⟩
      · rcases sor b hb with q | q
        · have := m1 b q
          refine ⟨this.1, ?_⟩
          show (if b = wt 0 then z else f b) < 144
          rw [if_neg (sne b q)]; exact this.2
        · subst q
          refine ⟨hk6, ?_⟩
          show (if wt 0 = wt 0 then z else f (wt 0)) < 144
          rw [if_pos rfl]; exact hz
      · rw [c12, upd_lit]
        by_cases q : b = wt 0
        · rw [if_pos q]
          show nI z = if (S b || decide (b = wt 0)) = true then nI (if b = wt 0 then z else f b) else -1000000
          rw [if_pos (by rw [q]; simp), if_pos q]
        · rw [if_neg q, m2 b hb]
          show _ = if (S b || decide (b = wt 0)) = true then nI (if b = wt 0 then z else f b) else -1000000
          rw [if_neg q, decide_eq_false q, Bool.or_false]
      · rw [c8, upd_lit]
        by_cases q : p = z
        · subst q
          exact Or.inr ⟨wt 0, by simp, if_pos rfl, if_pos rfl⟩
        · rw [if_neg q]
          rcases m3 p hp q with ⟨q1, q2⟩ | ⟨b, q1, q2, q3⟩
          · refine Or.inl ⟨q1, fun b hb => ?_⟩
            rcases sor b hb with r | r
            · show (if b = wt 0 then z else f b) ≠ p
              rw [if_neg (sne b r)]; exact q2 b r
            · show (if b = wt 0 then z else f b) ≠ p
              rw [if_pos r]; exact fun e => q e.symm
          · exact Or.inr ⟨b, by show (S b || decide (b = wt 0)) = true; rw [q1]; rfl, by show (if b = wt 0 then z else f b) = p; rw [if_neg (sne b q1)]; exact q2, q3⟩
      · rcases sor b hb with q | q
        · show E b (if b = wt 0 then z else f b)
          rw [if_neg (sne b q)]; exact hM.1 b q
        · subst q
          show E (wt 0) (if wt 0 = wt 0 then z else f (wt 0))
          rw [if_pos rfl]; exact hE
      · have e' : (if b = wt 0 then z else f b) = (if c = wt 0 then z else f c) := e
        rcases sor b hb with q | q
        · rcases sor c hc with r | r
          · rw [if_neg (sne b q), if_neg (sne c r)] at e'
            exact hM.2 b c q r e'
          · rw [if_neg (sne b q), if_pos r] at e'
            exact absurd e' (m4 b q)
        · rcases sor c hc with r | r
          · rw [if_pos q, if_neg (sne c r)] at e'
            exact absurd e'.symm (m4 c r)
          · rw [q, r]
    · obtain ⟨s1, j, j1, j2, j3⟩ := hch k (by omega) (Nat.le_refl _)
      have m1k := m1 _ s1
      rw [if_pos s1]
      have fne : ∀ i, i ≤ j → (if wt i = wt k then z else f (wt i)) = f (wt i) := fun i hi => if_neg (fun e => by
        have := hinj i k (by omega) (Nat.le_refl _) e
        omega)
      have fin : (∃ h' f', f_X8_shift_2 0 n (nI (f (wt k))) g = some ((), h') ∧ q_MM h' (fun i => S i || decide (i = wt 0)) f' ∧ Mt E (fun i => S i || decide (i = wt 0)) f' ∧ ∀ c, c ≠ 8 → c ≠ 12 → h' c = g c) → ∃ h' f', f_X8_shift_2 0 n (nI (f (wt k))) g = some ((), h') ∧ q_MM h' (fun i => S i || decide (i = wt 0)) f' ∧ Mt E (fun i => S i || decide (i = wt 0)) f' ∧ ∀ c, c ≠ 8 → c ≠ 12 → h' c = h c := fun ⟨h', f', r1, r2, r3, r4⟩ => ⟨h', f', r1, r2, r3, fun c n1 n2 => by rw [r4 c n1 n2, co c n1 n2]⟩
      refine fin (ih j j1 n (f (wt k)) g (fun i => if i = wt k then z else f i) (by omega) m1k.2 ⟨fun b hb => ?_, fun b hb => ?_, fun p hp hne => ?_, fun b hb => ?_⟩ ⟨fun b hb => ?_, fun b c hb hc e => ?_⟩ (by rw [co 11 (by decide) (by decide)]; exact j2) j3 (fun i hi => h6 i (by omega)) (fun i i1 i2 => ?_) (fun a b ha hb => hinj a b (by omega) (by omega)))
      · refine ⟨(m1 b hb).1, ?_⟩
        show (if b = wt k then z else f b) < 144
        split
        · exact hz
        · exact (m1 b hb).2
      · rw [c12, upd_lit]
        by_cases q : b = wt k
        · rw [if_pos q, q, if_pos s1]
          show nI z = nI (if wt k = wt k then z else f (wt k))
          rw [if_pos rfl]
        · rw [if_neg q, m2 b hb]
          show _ = if S b = true then nI (if b = wt k then z else f b) else -1000000
          rw [if_neg q]
      · rw [c8, upd_lit]
        by_cases q : p = z
        · subst q
          exact Or.inr ⟨wt k, s1, if_pos rfl, if_pos rfl⟩
        · rw [if_neg q]
          rcases m3 p hp q with ⟨q1, q2⟩ | ⟨b, q1, q2, q3⟩
          · refine Or.inl ⟨q1, fun b hb => ?_⟩
            show (if b = wt k then z else f b) ≠ p
            split
            · exact fun e => q e.symm
            · exact q2 b hb
          · refine Or.inr ⟨b, q1, ?_, q3⟩
            show (if b = wt k then z else f b) = p
            rw [if_neg (fun e => hne (by rw [← e]; exact q2.symm))]; exact q2
      · show (if b = wt k then z else f b) ≠ f (wt k)
        by_cases q : b = wt k
        · rw [if_pos q]; exact fun e => m4 _ s1 e.symm
        · rw [if_neg q]; exact fun e => q (hM.2 _ _ hb s1 e)
      · show E b (if b = wt k then z else f b)
        by_cases q : b = wt k
        · rw [if_pos q, q]; exact hE
        · rw [if_neg q]; exact hM.1 b hb
      · have e' : (if b = wt k then z else f b) = (if c = wt k then z else f c) := e
        by_cases q : b = wt k
        · by_cases r : c = wt k
          · rw [q, r]
          · rw [if_pos q, if_neg r] at e'; exact absurd e'.symm (m4 c hc)
        · by_cases r : c = wt k
          · rw [if_neg q, if_pos r] at e'; exact absurd e' (m4 b hb)
          · rw [if_neg q, if_neg r] at e'; exact hM.2 b c hb hc e'
      · show S (wt i) = true ∧ ∃ l, l < i ∧ g 11 (if wt i = wt k then z else f (wt i)) = nI (wt l) ∧ E (wt l) (if wt i = wt k then z else f (wt i))
        rw [fne i i2, co 11 (by decide) (by decide)]
        exact hch i i1 (by omega)
def q_Fr (h0 h : AH) : Prop := ∀ c, c ≠ 8 → c ≠ 10 → c ≠ 11 → c ≠ 12 → c ≠ 13 → h c = h0 c
def q_Or (h0 : AH) (B : Nat → Prop) (E : Nat → Nat → Prop) : Prop := (∀ h, q_Fr h0 h → ∀ b p, B b → p < 144 → ∃ v : Nat, (v = 0 ∨ v = 1) ∧ f_X8_canBe 0 (nI b) (nI p) h = some (nI v, h) ∧ (v = 1 ↔ E b p)) ∧ (∀ b p, E b p → B b ∧ p < 144) ∧ ∀ b, B b → b < 6
def q_PC (h0 : AH) (E : Nat → Nat → Prop) (S : Nat → Bool) (f : Nat → Nat) (b0 : Nat) (res : Option (Int32 × AH)) : Prop := (∃ h' f', res = some (1, h') ∧ q_Fr h0 h' ∧ q_MM h' (fun i => S i || decide (i = b0)) f' ∧ Mt E (fun i => S i || decide (i = b0)) f') ∨ (∃ (h' : AH) (Z : Nat → Bool), res = some (0, h') ∧ q_Fr h0 h' ∧ q_MM h' S f ∧ Z b0 = true ∧ (∀ i, Z i = true → i = b0 ∨ S i = true) ∧ ∀ i p, Z i = true → E i p → ∃ j, Z j = true ∧ S j = true ∧ f j = p)
/-- while boat after boat looks for a place: m boats wait, those ahead of k have looked everywhere, k ahead of p -/
def q_PI (hb : AH) (B : Nat → Prop) (E : Nat → Nat → Prop) (S : Nat → Bool) (f : Nat → Nat) (b0 m k p : Nat) (wt : Nat → Nat) (h : AH) : Prop :=
  (∀ c, c ≠ 10 → c ≠ 11 → c ≠ 13 → h c = hb c) ∧ (1 ≤ m ∧ m ≤ 6 ∧ wt 0 = b0) ∧ (∀ i, i < m → h 13 i = nI (wt i) ∧ B (wt i)) ∧ (∀ i, 1 ≤ i → i < m → S (wt i) = true ∧ h 10 (f (wt i)) = 1 ∧ ∃ j, j < i ∧ h 11 (f (wt i)) = nI (wt j) ∧ E (wt j) (f (wt i))) ∧ (∀ i j, i < m → j < m → wt i = wt j → i = j) ∧ (∀ y, y < 144 → h 10 y = 0 ∨ (h 10 y = 1 ∧ ∃ i, 1 ≤ i ∧ i < m ∧ f (wt i) = y)) ∧ ∀ j y, j < m → (j < k ∨ (j = k ∧ y < p)) → E (wt j) y → h 10 y = 1
theorem m_puts41 {h0 hb : AH} {B : Nat → Prop} {E : Nat → Nat → Prop} {S : Nat → Bool} {f : Nat → Nat} {b0 : Nat} (hO : q_Or h0 B E) (hF : q_Fr h0 hb) (hMM : q_MM hb S f) (hMt : Mt E S f) (hs0 : S b0 = false) {k : Nat} {K : Int32 → Int32 → AH → Option (Int32 × AH)}
    (hK : ∀ m wt h, k < m → q_PI hb B E S f b0 m (k + 1) 0 wt h → q_PC h0 E S f b0 (K (nI m) (nI (k + 1)) h)) : ∀ (r fuel m p : Nat) (wt : Nat → Nat) (h : AH), p + r = 144 → r < fuel → k < m → q_PI hb B E S f b0 m k p wt h → q_PC h0 E S f b0 (f_X8_putsOne_41 0 K fuel (nI m) (nI k) (nI p) h) := by
  intro r
  induction r with
  | zero =>
    intro fuel m p wt h hp hf hkm hI
    obtain ⟨n, rfl⟩ : ∃ n, fuel = n + 1 := ⟨fuel - 1, by omega⟩
    rw [f_X8_putsOne_41, if_pos (show (144 : Int32) ≤ nI p from nI_le (a := 144) (by omega) (by omega)), lt_s2, nI_1]
    refine hK m wt h hkm ?_
    obtain ⟨i1, i2, i3, i4, i5, i6, i7⟩ := hI
    refine ⟨i1, i2, i3, i4, i5, i6, fun j y hj hd hE => i7 j y hj ?_ hE⟩
    have := (hO.2.1 _ _ hE).2
    omega
  | succ r ih =>
    intro fuel m p wt h hp hf hkm hI
    obtain ⟨n, rfl⟩ : ∃ n, fuel = n + 1 := ⟨fuel - 1, by omega⟩
    have hI' := hI
    obtain ⟨i1, i2, i3, i4, i5, i6, i7⟩ := hI
    have hk6 : k < 6 := by omega
    have hfr : q_Fr h0 h := fun c n1 n2 n3 n4 n5 => by rw [i1 c n2 n3 n5]; exact hF c n1 n2 n3 n4 n5
    rw [f_X8_putsOne_41, if_neg (show ¬ (144 : Int32) ≤ nI p from nI_ge (b := 144) (by omega) (by decide)), ck_nI _ (by omega) (by decide), cl_nI (by omega), Nat.zero_add]
    rcases i6 p (by omega) with q | ⟨q, q'⟩
    case inr =>
      rw [if_neg (by rw [q]; exact n10), lt_s2, nI_1]
      refine ih n m (p + 1) wt h (by omega) (by omega) hkm ⟨i1, i2, i3, i4, i5, i6, fun j y hj hd hE => ?_⟩
      by_cases c : j = k ∧ y = p
      · rw [c.2]; exact q
      · exact i7 j y hj (by omega) hE
    rw [if_pos q, ck_nI _ hk6 (by decide), cl_nI (by omega), (i3 k hkm).1]
    obtain ⟨v, v1, v2, v3⟩ := hO.1 h hfr (wt k) p (i3 k hkm).2 (by omega)
    rw [v2, bd_s]
    rcases v1 with rfl | rfl
    · rw [if_n0, lt_s2, nI_1]
      refine ih n m (p + 1) wt h (by omega) (by omega) hkm ⟨i1, i2, i3, i4, i5, i6, fun j y hj hd hE => ?_⟩
      by_cases c : j = k ∧ y = p
      · rw [c.1, c.2] at hE
        exact absurd (v3.mpr hE) (by decide)
      · exact i7 j y hj (by omega) hE
    have hE := v3.mp rfl
    rw [if_neg (show ¬ nI 1 = 0 from n10), ck_nI _ (by omega) (by decide), lt_s2, ck_nI _ hk6 (by decide), ck_nI _ (by omega) (by decide), lt_s2, ck_nI _ (by omega) (by decide), hs_cell _ _ _ _ 13 (by decide), (i3 k hkm).1, vb_1]
    have c8 : hset (hset h 10 p 1) 11 p (nI (wt k)) 8 = hb 8 := by rw [hs_cell _ _ _ _ _ (by decide), hs_cell _ _ _ _ _ (by decide), i1 8 (by decide) (by decide) (by decide)]
    have c10 : hset (hset h 10 p 1) 11 p (nI (wt k)) 10 = upd (h 10) p 1 := by rw [hs_cell _ _ _ _ _ (by decide), hs_row]
    have c11 : hset (hset h 10 p 1) 11 p (nI (wt k)) 11 = upd (h 11) p (nI (wt k)) := by rw [hs_row, hs_cell _ _ _ _ _ (by decide)]
    have co : ∀ c, c ≠ 10 → c ≠ 11 → hset (hset h 10 p 1) 11 p (nI (wt k)) c = h c := fun c n1 n2 => by rw [hs_cell _ _ _ _ _ n2, hs_cell _ _ _ _ _ n1]
    generalize hset (hset h 10 p 1) 11 p (nI (wt k)) = g at c8 c10 c11 co ⊢
    rcases hMM.2.2 p (by omega) with ⟨z1, z2⟩ | ⟨b, z1, z2, z3⟩
    · rw [c8, z1, if_pos rfl]
      obtain ⟨h', f', r1, r2, r3, r4⟩ := m_shift (E := E) (S := S) (wt := wt) (by rw [i2.2.2]; exact hs0) k fu p g f (fu_ge _ (by omega)) (by omega) ⟨hMM.1, fun b hb6 => by rw [co 12 (by decide) (by decide), i1 12 (by decide) (by decide) (by decide)]; exact hMM.2.1 b hb6, fun y hy _ => by rw [c8]; exact hMM.2.2 y hy, z2⟩ hMt (by rw [c11]; exact pk_us) hE (fun i hi => hO.2.2 _ (i3 i (by omega)).2) (fun i j1 j2 => by
        obtain ⟨s1, s2, j, j3, j4, j5⟩ := i4 i j1 (by omega)
        refine ⟨s1, j, j3, ?_, j5⟩
        rw [c11, pk_un (z2 _ s1)]
        exact j4) (fun i j hi hj => i5 i j (by omega) (by omega))
      unfold f_X8_shift
      rw [r1, bd_s]
      refine Or.inl ⟨h', f', rfl, fun c n1 n2 n3 n4 n5 => ?_, ?_, ?_⟩
      · rw [r4 c n1 n4, co c n2 n3]; exact hfr c n1 n2 n3 n4 n5
      · rw [i2.2.2] at r2; exact r2
      · rw [i2.2.2] at r3; exact r3
    · have hb6 := hMM.1 b z1
      have bnew : ∀ i, i < m → wt i ≠ b := fun i hi e => by
        by_cases i0 : i = 0
        · rw [i0, i2.2.2] at e
          rw [e, z1] at hs0
          exact absurd hs0 (by decide)
        · have := (i4 i (by omega) hi).2.1
          rw [e, z2, q] at this
          exact absurd this (by decide)
      have hBb : B b := (hO.2.1 _ _ (hMt.1 b z1)).1
      have hm6 : m + 1 ≤ 6 := by
        refine cnt_inj (g := fun i => if i = m then b else wt i) (fun i hi => ?_) (fun i j hi hj e => ?_)
        · show (if i = m then b else wt i) < 6
          split
          · exact hb6.1
          · exact hO.2.2 _ (i3 i (by omega)).2
        · have e' : (if i = m then b else wt i) = (if j = m then b else wt j) := e
          by_cases a1 : i = m
          · by_cases a2 : j = m
            · omega
            · rw [if_pos a1, if_neg a2] at e'
              exact absurd e'.symm (bnew j (by omega))
          · by_cases a2 : j = m
            · rw [if_neg a1, if_pos a2] at e'
              exact absurd e' (bnew i (by omega))
            · rw [if_neg a1, if_neg a2] at e'
              exact i5 i j (by omega) (by omega) e'
      rw [c8, z3, if_neg (none_ne (by omega)), ck_nI _ (by omega) (by decide), ck_nI _ (by omega) (by decide), lt_s2, cl_nI (by omega), lt_s2, lt_s2, nI_1, nI_1]
      have wne : ∀ i, i < m → (if i = m then b else wt i) = wt i := fun i hi => if_neg (by omega)
      refine ih n (m + 1) (p + 1) (fun i => if i = m then b else wt i) _ (by omega) (by omega) (by omega) ⟨fun c n1 n2 n3 => ?_, ⟨by omega, hm6, ?_⟩, fun i hi => ?_, fun i j1 j2 => ?_, fun i j hi hj e => ?_, fun y hy => ?_, fun j y hj hd hE2 => ?_⟩
      · rw [hs_cell _ _ _ _ _ n3, co c n1 n2]; exact i1 c n1 n2 n3
      · show (if 0 = m then b else wt 0) = b0
        rw [wne 0 (by omega)]; exact i2.2.2
      · show _ = nI (if i = m then b else wt i) ∧ B (if i = m then b else wt i)
        rw [hs_row, upd_lit]
        by_cases a1 : i = m
        · rw [if_pos a1, if_pos a1]; exact ⟨rfl, hBb⟩
        · rw [if_neg a1, if_neg a1, co 13 (by decide) (by decide)]; exact i3 i (by omega)
      · dsimp only
        rw [hs_cell _ _ _ _ 10 (by decide), hs_cell _ _ _ _ 11 (by decide), c10, c11]
        by_cases a1 : i = m
        · rw [if_pos a1]
          refine ⟨z1, by rw [z2]; exact pk_us, k, by omega, ?_, ?_⟩
          · rw [z2, wne k hkm]; exact pk_us
          · rw [wne k hkm, z2]; exact hE
        · rw [if_neg a1]
          obtain ⟨s1, s2, j, j3, j4, j5⟩ := i4 i j1 (by omega)
          have fne : f (wt i) ≠ p := fun e => bnew i (by omega) (hMt.2 _ _ s1 z1 (e.trans z2.symm))
          refine ⟨s1, by rw [pk_un fne]; exact s2, j, j3, ?_, ?_⟩
          · rw [pk_un fne, wne j (by omega)]; exact j4
          · rw [wne j (by omega)]; exact j5
      · have e' : (if i = m then b else wt i) = (if j = m then b else wt j) := e
        by_cases a1 : i = m
        · by_cases a2 : j = m
          · omega
          · rw [if_pos a1, if_neg a2] at e'
            exact absurd e'.symm (bnew j (by omega))
        · by_cases a2 : j = m
          · rw [if_neg a1, if_pos a2] at e'
            exact absurd e' (bnew i (by omega))
          · rw [if_neg a1, if_neg a2] at e'
            exact i5 i j (by omega) (by omega) e'
      · rw [hs_cell _ _ _ _ 10 (by decide), c10, upd_lit]
        by_cases a1 : y = p
        · rw [if_pos a1]
          exact Or.inr ⟨rfl, m, by omega, by omega, by
            show f (if m = m then b else wt m) = y
            rw [if_pos rfl, a1]; exact z2⟩
        · rw [if_neg a1]
          rcases i6 y hy with t | ⟨t, i, t1, t2, t3⟩
          · exact Or.inl t
          · exact Or.inr ⟨t, i, t1, by omega, by
              show f (if i = m then b else wt i) = y
              rw [wne i t2]; exact t3⟩
      · rw [hs_cell _ _ _ _ 10 (by decide), c10, upd_lit]
        have hj2 : j < m := by omega
        have hE3 : E (wt j) y := by rw [← wne j hj2]; exact hE2
        by_cases a1 : y = p
        · rw [if_pos a1]
        · rw [if_neg a1]
          exact i7 j y hj2 (by omega) hE3
theorem m_puts33 {h0 hb : AH} {B : Nat → Prop} {E : Nat → Nat → Prop} {S : Nat → Bool} {f : Nat → Nat} {b0 : Nat} (hO : q_Or h0 B E) (hF : q_Fr h0 hb) (hMM : q_MM hb S f) (hMt : Mt E S f) (hs0 : S b0 = false) : ∀ (r fuel m k : Nat) (wt : Nat → Nat) (h : AH), k + r = 6 → r < fuel → q_PI hb B E S f b0 m k 0 wt h → q_PC h0 E S f b0 (f_X8_putsOne_33 0 fuel (nI m) (nI k) h) := by
  have stop : ∀ (n m k : Nat) (wt : Nat → Nat) (h : AH), m ≤ k → k ≤ 6 → q_PI hb B E S f b0 m k 0 wt h → q_PC h0 E S f b0 (f_X8_putsOne_33 0 (n + 1) (nI m) (nI k) h) := by
    intro n m k wt h hmk hk hI
    obtain ⟨i1, i2, i3, i4, i5, i6, i7⟩ := hI
    rw [f_X8_putsOne_33, if_pos (nI_le hmk (by omega))]
    refine Or.inr ⟨h, fun i => cb (∃ j, j < m ∧ wt j = i), rfl, fun c n1 n2 n3 n4 n5 => by rw [i1 c n2 n3 n5]; exact hF c n1 n2 n3 n4 n5, ?_, ?_, fun i hi => ?_, fun i p hi hE => ?_⟩
    · obtain ⟨a1, a2, a3⟩ := hMM
      exact ⟨a1, by rw [i1 12 (by decide) (by decide) (by decide)]; exact a2, by rw [i1 8 (by decide) (by decide) (by decide)]; exact a3⟩
    · exact cb_t.mpr ⟨0, by omega, i2.2.2⟩
    · obtain ⟨j, j1, j2⟩ := cb_t.mp hi
      by_cases j0 : j = 0
      · left; rw [← j2, j0]; exact i2.2.2
      · right; rw [← j2]; exact (i4 j (by omega) j1).1
    · obtain ⟨j, j1, j2⟩ := cb_t.mp hi
      have h1 := i7 j p j1 (Or.inl (by omega)) (by rw [j2]; exact hE)
      rcases i6 p (hO.2.1 _ _ hE).2 with q | ⟨q, l, l1, l2, l3⟩
      · rw [q] at h1; exact absurd h1 (by decide)
      · exact ⟨wt l, cb_t.mpr ⟨l, l2, rfl⟩, (i4 l l1 l2).1, l3⟩
  intro r
  induction r with
  | zero =>
    intro fuel m k wt h hk hf hI
    obtain ⟨n, rfl⟩ : ∃ n, fuel = n + 1 := ⟨fuel - 1, by omega⟩
    exact stop n m k wt h (by have := hI.2.1; omega) (by omega) hI
  | succ r ih =>
    intro fuel m k wt h hk hf hI
    obtain ⟨n, rfl⟩ : ∃ n, fuel = n + 1 := ⟨fuel - 1, by omega⟩
    by_cases c : m ≤ k
    · exact stop n m k wt h c (by omega) hI
    · have hm := hI.2.1
      rw [f_X8_putsOne_33, if_neg (nI_ge (by omega) (by omega))]
      exact m_puts41 hO hF hMM hMt hs0 (fun m2 wt2 h2 _ hI2 => ih n m2 (k + 1) wt2 h2 (by omega) (by omega) hI2) 144 fu m 0 wt h (by decide) (fu_ge _ (by decide)) (by omega) hI
theorem m_puts2 (b : Nat) : ∀ (r fuel i : Nat) (h : AH), i + r = 144 → r < fuel → (∀ y, y < i → h 10 y = 0) → ∃ g : AH, f_X8_putsOne_2 0 fuel (nI b) (nI i) h = f_X8_putsOne_33 0 fu 1 0 (hset g 13 0 (nI b)) ∧ (∀ c, c ≠ 10 → g c = h c) ∧ ∀ y, y < 144 → g 10 y = 0 := by
  intro r
  induction r with
  | zero =>
    intro fuel i h hi hf hz
    obtain ⟨n, rfl⟩ : ∃ n, fuel = n + 1 := ⟨fuel - 1, by omega⟩
    rw [f_X8_putsOne_2, if_pos (show (144 : Int32) ≤ nI i from nI_le (a := 144) (by omega) (by omega))]
    exact ⟨h, rfl, fun _ _ => rfl, fun y hy => hz y (by omega)⟩
  | succ r ih =>
    intro fuel i h hi hf hz
    obtain ⟨n, rfl⟩ : ∃ n, fuel = n + 1 := ⟨fuel - 1, by omega⟩
    rw [f_X8_putsOne_2, if_neg (show ¬ (144 : Int32) ≤ nI i from nI_ge (b := 144) (by omega) (by decide)), ck_nI _ (by omega) (by decide), cl_nI (by omega), lt_s2, lt_s2, nI_1, vb_0, Nat.zero_add]
    obtain ⟨g, g1, g2, g3⟩ := ih n (i + 1) (hset h 10 i 0) (by omega) (by omega) (fun y hy => by
      rw [hs_row, upd_lit]
      split
      · rfl
      · exact hz y (by omega))
    exact ⟨g, g1, fun c hc => by rw [g2 c hc, hs_cell _ _ _ _ _ hc], g3⟩
theorem m_puts {h0 hb : AH} {B : Nat → Prop} {E : Nat → Nat → Prop} {S : Nat → Bool} {f : Nat → Nat} {b0 : Nat} (hO : q_Or h0 B E) (hF : q_Fr h0 hb) (hMM : q_MM hb S f) (hMt : Mt E S f) (hs0 : S b0 = false) (hB : B b0) : q_PC h0 E S f b0 (f_X8_putsOne 0 (nI b0) hb) := by
  obtain ⟨g, g1, g2, g3⟩ := m_puts2 b0 144 fu 0 hb (by decide) (fu_ge _ (by decide)) (fun y hy => absurd hy (Nat.not_lt_zero y))
  unfold f_X8_putsOne
  rw [show (0 : Int32) = nI 0 from rfl, g1]
  refine m_puts33 (hb := hb) hO hF hMM hMt hs0 6 fu 1 0 (fun _ => b0) _ (by decide) (fu_ge _ (by decide)) ⟨fun c n1 n2 n3 => ?_, ⟨by decide, by decide, rfl⟩, fun i hi => ?_, fun i j1 j2 => by omega, fun i j hi hj _ => by omega, fun y hy => ?_, fun j y hj hd _ => by omega⟩
  · rw [hs_cell _ _ _ _ _ n3, g2 c n1]
  · have : i = 0 := by omega
    subst this
    exact ⟨hs_self _ _ _ _, hB⟩
  · left
    rw [hs_cell _ _ _ _ _ (by decide)]; exact g3 y hy
/-- how many can have places, boat after boat -/
theorem m_most49 {h0 : AH} {σ : Sg} {B : Nat → Prop} {E : Nat → Nat → Prop} (hO : q_Or h0 B E) (hM : MR (h0 4) σ) (w : WFs σ) (hB : ∀ b, B b ↔ b < σ 0 1 ∧ σ 10 b = 0) {lo : Nat} : ∀ (r fuel b : Nat) (h : AH) (S : Nat → Bool) (f : Nat → Nat) (Z : Nat → Bool), b + r = σ 0 1 → r < fuel → lo ≤ b → q_Fr h0 h → q_MM h S f → Iv E lo b S f Z → ∃ c h', f_X8_mostFrom_49 0 fuel (nI (cnt S 6)) (nI b) h = some (nI c, h') ∧ q_Fr h0 h' ∧ Gr E lo (σ 0 1) c := by
  intro r
  have w6 := w.2.1
  induction r with
  | zero =>
    intro fuel b h S f Z hb hf hl hF hMM hI
    obtain ⟨n, rfl⟩ : ∃ n, fuel = n + 1 := ⟨fuel - 1, by omega⟩
    rw [f_X8_mostFrom_49, L1, ck_nI _ (by decide) (by decide), cl_nI (by decide), Nat.zero_add, hF 4 (by decide) (by decide) (by decide) (by decide) (by decide), hM.2.1, if_pos (nI_le (by omega) (by omega))]
    refine ⟨_, h, rfl, hF, ?_⟩
    have hb2 : b = σ 0 1 := by omega
    subst hb2
    exact Iv_G w6 hI
  | succ r ih =>
    intro fuel b h S f Z hb hf hl hF hMM hI
    obtain ⟨n, rfl⟩ : ∃ n, fuel = n + 1 := ⟨fuel - 1, by omega⟩
    have e4 := hF 4 (by decide) (by decide) (by decide) (by decide) (by decide)
    have hb1 : b < σ 0 1 := by omega
    have hsb : S b = false := by
      cases hs : S b with
      | false => rfl
      | true => have := (hI.1 b hs).2; omega
    have mb := hM.2.2.2.2.2.2 b hb1
    rw [f_X8_mostFrom_49, L1, ck_nI _ (by decide) (by decide), cl_nI (by decide), Nat.zero_add, e4, hM.2.1, if_neg (nI_ge hb1 (by omega)), L6, m_of h (by omega) (by decide), bd_s, e4, mb.2.2.2]
    have g1 := (wf_b w hb1).2.2.2.2
    rcases (show σ 10 b = 0 ∨ σ 10 b = 1 by omega) with g0 | g0
    · rw [g0, if_n0]
      rcases m_puts hO hF hMM hI.2.1 hsb ((hB b).mpr ⟨hb1, g0⟩) with ⟨h', f', r1, r2, r3, r4⟩ | ⟨h', W, r1, r2, r3, r4, r5, r6⟩
      · rw [r1, bd_s, if_neg n10, lt_s2, lt_s2, nI_add, nI_add]
        have ec : cnt (fun i => S i || decide (i = b)) 6 = cnt S 6 + 1 := cnt_add (by omega) hsb (fun i _ => rfl)
        rw [← ec]
        exact ih n (b + 1) h' _ f' Z (by omega) (by omega) (by omega) r2 r3 (Iv_y (by omega) hl hI (fun _ => rfl) r4)
      · rw [r1, bd_s, if_pos rfl, lt_s2, lt_s2, nI_add, show (0 : Int32) = nI 0 from rfl, nI_add, Nat.add_zero]
        exact ih n (b + 1) h' S f _ (by omega) (by omega) (by omega) r2 r3 (Iv_n hl hI r4 r5 r6)
    · rw [g0, if_neg (show ¬ nI 1 = 0 from n10), lt_s2, lt_s2, nI_add, show (0 : Int32) = nI 0 from rfl, nI_add, Nat.add_zero]
      refine ih n (b + 1) h S f (fun i => Z i || decide (i = b)) (by omega) (by omega) (by omega) hF hMM (Iv_n hl hI (W := fun i => decide (i = b)) (by simp) (fun i hi => Or.inl (of_decide_eq_true hi)) (fun i p hi hE => ?_))
      have e : i = b := of_decide_eq_true hi
      subst e
      have := ((hB i).mp (hO.2.1 _ _ hE).1).2
      omega
theorem m_most25 (b : Nat) : ∀ (r fuel i : Nat) (h : AH), i + r = 6 → r < fuel → (∀ y, y < i → h 12 y = -1000000) → ∃ g : AH, f_X8_mostFrom_25 0 fuel (nI b) (nI i) h = f_X8_mostFrom_49 0 fu 0 (nI b) g ∧ (∀ c, c ≠ 12 → g c = h c) ∧ ∀ y, y < 6 → g 12 y = -1000000 := by
  intro r
  induction r with
  | zero =>
    intro fuel i h hi hf hz
    obtain ⟨n, rfl⟩ : ∃ n, fuel = n + 1 := ⟨fuel - 1, by omega⟩
    rw [f_X8_mostFrom_25, if_pos (show (6 : Int32) ≤ nI i from nI_le (a := 6) (by omega) (by omega))]
    exact ⟨h, rfl, fun _ _ => rfl, fun y hy => hz y (by omega)⟩
  | succ r ih =>
    intro fuel i h hi hf hz
    obtain ⟨n, rfl⟩ : ∃ n, fuel = n + 1 := ⟨fuel - 1, by omega⟩
    rw [f_X8_mostFrom_25, if_neg (show ¬ (6 : Int32) ≤ nI i from nI_ge (b := 6) (by omega) (by decide)), ck_nI _ (by omega) (by decide), cl_nI (by omega), lt_s2, lt_s2, nI_1, Nat.zero_add]
    obtain ⟨g, g1, g2, g3⟩ := ih n (i + 1) (hset h 12 i (-1000000)) (by omega) (by omega) (fun y hy => by
      rw [hs_row, upd_lit]
      split
      · rfl
      · exact hz y (by omega))
    exact ⟨g, g1, fun c hc => by rw [g2 c hc, hs_cell _ _ _ _ _ hc], g3⟩
theorem m_most2 (b : Nat) : ∀ (r fuel i : Nat) (h : AH), i + r = 144 → r < fuel → (∀ y, y < i → h 8 y = -1000000) → ∃ g : AH, f_X8_mostFrom_2 0 fuel (nI b) (nI i) h = f_X8_mostFrom_25 0 fu (nI b) 0 g ∧ (∀ c, c ≠ 8 → g c = h c) ∧ ∀ y, y < 144 → g 8 y = -1000000 := by
  intro r
  induction r with
  | zero =>
    intro fuel i h hi hf hz
    obtain ⟨n, rfl⟩ : ∃ n, fuel = n + 1 := ⟨fuel - 1, by omega⟩
    rw [f_X8_mostFrom_2, if_pos (show (144 : Int32) ≤ nI i from nI_le (a := 144) (by omega) (by omega))]
    exact ⟨h, rfl, fun _ _ => rfl, fun y hy => hz y (by omega)⟩
  | succ r ih =>
    intro fuel i h hi hf hz
    obtain ⟨n, rfl⟩ : ∃ n, fuel = n + 1 := ⟨fuel - 1, by omega⟩
    rw [f_X8_mostFrom_2, if_neg (show ¬ (144 : Int32) ≤ nI i from nI_ge (b := 144) (by omega) (by decide)), ck_nI _ (by omega) (by decide), cl_nI (by omega), lt_s2, lt_s2, nI_1, Nat.zero_add]
    obtain ⟨g, g1, g2, g3⟩ := ih n (i + 1) (hset h 8 i (-1000000)) (by omega) (by omega) (fun y hy => by
      rw [hs_row, upd_lit]
      split
      · rfl
      · exact hz y (by omega))
    exact ⟨g, g1, fun c hc => by rw [g2 c hc, hs_cell _ _ _ _ _ hc], g3⟩
theorem q_MS_c {h h2 : AH} {σ : Sg} {lo hi : Nat} {ch : Nat → Nat} {T : Nat → Bool} (hS : q_MS h σ lo hi ch T) (e : q_Fr h h2) : q_MS h2 σ lo hi ch T := by
  unfold q_MS
  rw [e 4 (by decide) (by decide) (by decide) (by decide) (by decide), e 0 (by decide) (by decide) (by decide) (by decide) (by decide), e 14 (by decide) (by decide) (by decide) (by decide) (by decide), e 9 (by decide) (by decide) (by decide) (by decide) (by decide)]
  exact hS
theorem m_mostFrom {h : AH} {σ : Sg} {lo hi : Nat} {ch : Nat → Nat} {T : Nat → Bool} (hS : q_MS h σ lo hi ch T) (w : WFs σ) (hl : lo ≤ 11) (hh : hi ≤ 11) {b : Nat} (hb : b ≤ σ 0 1) : ∃ c h', f_X8_mostFrom 0 (nI b) h = some (nI c, h') ∧ q_Fr h h' ∧ Gr (q_ET σ lo hi ch T) b (σ 0 1) c := by
  have hO : q_Or h (fun b => b < σ 0 1 ∧ σ 10 b = 0) (q_ET σ lo hi ch T) := ⟨fun h2 hF b p hB hp => m_canBe (q_MS_c hS hF) w hl hh hB.1 hB.2 hp, fun b p hE => ⟨hE.1.1, hE.1.2.1⟩, fun b hB => by have := w.2.1; omega⟩
  obtain ⟨g, g1, g2, g3⟩ := m_most2 b 144 fu 0 h (by decide) (fu_ge _ (by decide)) (fun y hy => absurd hy (Nat.not_lt_zero y))
  obtain ⟨k, k1, k2, k3⟩ := m_most25 b 6 fu 0 g (by decide) (fu_ge _ (by decide)) (fun y hy => absurd hy (Nat.not_lt_zero y))
  have hF : q_Fr h k := fun c n1 n2 n3 n4 n5 => by rw [k2 c n4, g2 c n1]
  have w6 := w.2.1
  obtain ⟨c, h', r1, r2, r3⟩ := m_most49 hO hS.1 w (fun _ => Iff.rfl) (lo := b) (σ 0 1 - b) fu b k (fun _ => false) (fun _ => 0) (fun _ => false) (by omega) (fu_ge _ (by omega)) (Nat.le_refl _) hF ⟨fun b h => Bool.noConfusion h, fun b hb => by rw [k3 b hb]; rfl, fun p hp => Or.inl ⟨by rw [k2 8 (by decide)]; exact g3 p hp, fun b h => Bool.noConfusion h⟩⟩ (Iv_0 _ _ _)
  refine ⟨c, h', ?_, r2, r3⟩
  unfold f_X8_mostFrom
  rw [show (0 : Int32) = nI 0 from rfl, g1, show (0 : Int32) = nI 0 from rfl, k1]
  exact r1
