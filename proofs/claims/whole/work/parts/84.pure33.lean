/-! ===== rows of charters on both sides: the next row, the sorted row ===== -/
def q_RW (f : Nat → Int32) (n : Nat) (c : Nat → Nat) : Prop := ∀ a, a < n → c a ≤ 4 ∧ f a = nI (c a)
theorem q_RW_sw {f : Nat → Int32} {n : Nat} {c : Nat → Nat} (h : q_RW f n c) {i j : Nat} (hi : i < n) (hj : j < n) : q_RW (upd (upd f i (f j)) j (f i)) n (sw c i j) := by
  intro a ha
  rw [upd_lit, upd_lit]
  by_cases e2 : a = j
  · rw [if_pos e2, e2, sw_j]; exact h i hi
  · rw [if_neg e2]
    by_cases e1 : a = i
    · rw [if_pos e1, e1, sw_i]; exact h j hj
    · rw [if_neg e1, sw_o _ e1 e2]; exact h a ha
theorem q_cmp {f : Nat → Int32} {n : Nat} {c : Nat → Nat} (h : q_RW f n c) {i j : Nat} (hi : i < n) (hj : j < n) : f i < f j ↔ c i < c j := by
  have a1 := h i hi
  have a2 := h j hj
  rw [a1.2, a2.2, nI_ltI (by omega) (by omega)]
theorem q_cmpl {f : Nat → Int32} {n : Nat} {c : Nat → Nat} (h : q_RW f n c) {i j : Nat} (hi : i < n) (hj : j < n) : f i ≤ f j ↔ c i ≤ c j := by
  have a1 := h i hi
  have a2 := h j hj
  rw [a1.2, a2.2, nI_leI (by omega) (by omega)]
theorem m1_eq (k : Nat) : nI k + (-1) = nI k - 1 := by
  cases k with
  | zero => decide
  | succ k => rw [pk_m1, nI_pred]
theorem m2_eq (k : Nat) : nI (k + 1) - 2 = nI k - 1 := by
  cases k with
  | zero => decide
  | succ k =>
    rw [nI_pred]
    have := pk_sub (a := k + 1 + 1) (b := 2) (by omega)
    rw [show k + 1 + 1 - 2 = k by omega] at this
    exact this
theorem x_swap {i j : Nat} (hi : i < 6) (hj : j < 6) (h : AH) : ∃ h', f_X3_swapCharters 49 (nI i) (nI j) h = some ((), h') ∧ (∀ c, c ≠ 52 → h' c = h c) ∧ h' 52 = upd (upd (h 52) i (h 52 j)) j (h 52 i) := by
  unfold f_X3_swapCharters
  rw [ck_nI _ hi (by decide), lt_s2, ck_nI _ hj (by decide), ck_nI _ hi (by decide), lt_s2, ck_nI _ hj (by decide), lt_s2, cl_nI (by omega), cl_nI (by omega)]
  refine ⟨_, rfl, fun c hc => by rw [hs_cell _ _ _ _ _ hc, hs_cell _ _ _ _ _ hc], ?_⟩
  rw [show (52 : Nat) = 49 + 3 from rfl, hs_row, hs_row]
theorem m_swap {i j : Nat} (hi : i < 6) (hj : j < 6) (h : AH) : ∃ h', f_X8_swap 0 (nI i) (nI j) h = some ((), h') ∧ (∀ c, c ≠ 14 → h' c = h c) ∧ h' 14 = upd (upd (h 14) i (h 14 j)) j (h 14 i) := by
  unfold f_X8_swap
  rw [ck_nI _ hi (by decide), lt_s2, ck_nI _ hj (by decide), ck_nI _ hi (by decide), lt_s2, ck_nI _ hj (by decide), lt_s2, cl_nI (by omega), cl_nI (by omega), Nat.zero_add]
  refine ⟨_, rfl, fun c hc => by rw [hs_cell _ _ _ _ _ hc, hs_cell _ _ _ _ _ hc], ?_⟩
  rw [hs_row, hs_row]
theorem x_rv {n : Nat} (hn : n ≤ 6) : ∀ (m fuel l g : Nat) (c : Nat → Nat) (h : AH), m < fuel → l < 100 → g ≤ l + 2 * m → g < n → q_RW (h 52) n c → ∃ h', f_X3_dealNext_91 49 fuel (nI l) (nI g) h = some (1, h') ∧ (∀ x, x ≠ 52 → h' x = h x) ∧ q_RW (h' 52) n (rvf m c l g) := by
  intro m
  induction m with
  | zero =>
    intro fuel l g c h hf hl hg hgn hR
    obtain ⟨k, rfl⟩ : ∃ k, fuel = k + 1 := ⟨fuel - 1, by omega⟩
    rw [f_X3_dealNext_91, if_pos (nI_le (by omega) (by omega))]
    exact ⟨h, rfl, fun _ _ => rfl, hR⟩
  | succ m ih =>
    intro fuel l g c h hf hl hg hgn hR
    obtain ⟨k, rfl⟩ : ∃ k, fuel = k + 1 := ⟨fuel - 1, by omega⟩
    by_cases e : l < g
    · rw [f_X3_dealNext_91, if_neg (nI_ge e (by omega))]
      obtain ⟨h1, s1, s2, s3⟩ := x_swap (i := l) (j := g) (by omega) (by omega) h
      obtain ⟨g', rfl⟩ : ∃ g', g = g' + 1 := ⟨g - 1, by omega⟩
      rw [s1, bd_s, lt_s2, lt_s2, nI_1, pk_m1]
      obtain ⟨h', r1, r2, r3⟩ := ih k (l + 1) g' (sw c l (g' + 1)) h1 (by omega) (by omega) (by omega) (by omega) (by rw [s3]; exact q_RW_sw hR (by omega) (by omega))
      refine ⟨h', r1, fun x hx => by rw [r2 x hx, s2 x hx], ?_⟩
      unfold rvf
      rw [if_pos e]
      exact r3
    · rw [f_X3_dealNext_91, if_pos (nI_le (by omega) (by omega))]
      refine ⟨h, rfl, fun _ _ => rfl, ?_⟩
      unfold rvf
      rw [if_neg e]
      exact hR
theorem m_rv {n : Nat} (hn : n ≤ 6) : ∀ (m fuel l g : Nat) (c : Nat → Nat) (h : AH), m < fuel → l < 100 → g ≤ l + 2 * m → g < n → q_RW (h 14) n c → ∃ h', f_X8_nextCharters_85 0 fuel (nI g) (nI l) h = some (1, h') ∧ (∀ x, x ≠ 14 → h' x = h x) ∧ q_RW (h' 14) n (rvf m c l g) := by
  intro m
  induction m with
  | zero =>
    intro fuel l g c h hf hl hg hgn hR
    obtain ⟨k, rfl⟩ : ∃ k, fuel = k + 1 := ⟨fuel - 1, by omega⟩
    rw [f_X8_nextCharters_85, if_pos (nI_le (by omega) (by omega))]
    exact ⟨h, rfl, fun _ _ => rfl, hR⟩
  | succ m ih =>
    intro fuel l g c h hf hl hg hgn hR
    obtain ⟨k, rfl⟩ : ∃ k, fuel = k + 1 := ⟨fuel - 1, by omega⟩
    by_cases e : l < g
    · rw [f_X8_nextCharters_85, if_neg (nI_ge e (by omega))]
      obtain ⟨h1, s1, s2, s3⟩ := m_swap (i := l) (j := g) (by omega) (by omega) h
      obtain ⟨g', rfl⟩ : ∃ g', g = g' + 1 := ⟨g - 1, by omega⟩
      rw [s1, bd_s, lt_s2, lt_s2, nI_1, pk_m1]
      obtain ⟨h', r1, r2, r3⟩ := ih k (l + 1) g' (sw c l (g' + 1)) h1 (by omega) (by omega) (by omega) (by omega) (by rw [s3]; exact q_RW_sw hR (by omega) (by omega))
      refine ⟨h', r1, fun x hx => by rw [r2 x hx, s2 x hx], ?_⟩
      unfold rvf
      rw [if_pos e]
      exact r3
    · rw [f_X8_nextCharters_85, if_pos (nI_le (by omega) (by omega))]
      refine ⟨h, rfl, fun _ _ => rfl, ?_⟩
      unfold rvf
      rw [if_neg e]
      exact hR
theorem x_jf {n : Nat} (hn : n ≤ 6) {c : Nat → Nat} {h : AH} (hR : q_RW (h 52) n c) {i m : Nat} (hi : i < m) (hm : c i < c m) : ∀ (k fuel : Nat), k ≤ n → k < fuel → m < k → f_X3_dealNext_47 49 fuel (nI i) (nI k - 1) h = f_X3_dealNext_73 49 (nI i) (nI (jf c (c i) k)) h := by
  intro k
  induction k with
  | zero => intro fuel _ _ h0; omega
  | succ k ih =>
    intro fuel hk hf hmk
    obtain ⟨f, rfl⟩ : ∃ f, fuel = f + 1 := ⟨fuel - 1, by omega⟩
    rw [nI_pred, f_X3_dealNext_47, if_neg (nI_ge (by omega) (by omega)), ck_nI _ (by omega) (by decide), ck_nI _ (by omega) (by decide), cl_nI (by omega), cl_nI (by omega)]
    unfold jf
    by_cases e : c i < c k
    · rw [if_pos ((q_cmp hR (by omega) (by omega)).mpr e), if_pos e]
    · rw [if_neg (fun z => e ((q_cmp hR (by omega) (by omega)).mp z)), if_neg e, lt_s2, m1_eq]
      have : m ≠ k := fun q => e (by rw [← q]; exact hm)
      exact ih f (by omega) (by omega) (by omega)
theorem x_piv {n : Nat} (hn : n ≤ 6) {c : Nat → Nat} {h : AH} (hR : q_RW (h 52) n c) : ∀ (k fuel : Nat), k + 1 ≤ n → k < fuel → f_X3_dealNext_7 49 fuel (nI k - 1) h = match pvf c k with
    | none => some (0, h)
    | some i => f_X3_dealNext_34 49 (nI i) h := by
  intro k
  induction k with
  | zero =>
    intro fuel hk hf
    obtain ⟨f, rfl⟩ : ∃ f, fuel = f + 1 := ⟨fuel - 1, by omega⟩
    rw [show nI 0 - 1 = -1 by decide, f_X3_dealNext_7, if_pos (by decide)]
    unfold f_X3_dealNext_34
    rw [if_neg (by decide)]
    rfl
  | succ k ih =>
    intro fuel hk hf
    obtain ⟨f, rfl⟩ : ∃ f, fuel = f + 1 := ⟨fuel - 1, by omega⟩
    rw [nI_pred, f_X3_dealNext_7, if_neg (nI_pos (by omega)), ck_nI _ (by omega) (by decide), lt_s2, nI_1, ck_nI _ (by omega) (by decide), cl_nI (by omega), cl_nI (by omega)]
    unfold pvf
    by_cases e : c k < c (k + 1)
    · rw [if_pos ((q_cmp hR (by omega) (by omega)).mpr e), if_pos e]
    · rw [if_neg (fun z => e ((q_cmp hR (by omega) (by omega)).mp z)), if_neg e, lt_s2, m1_eq]
      exact ih f (by omega) (by omega)
theorem x_next {n : Nat} (hn : n ≤ 6) {c : Nat → Nat} {h : AH} (hR : q_RW (h 52) n c) (h8 : h 49 8 = nI n) : (nxt n c = none ∧ f_X3_dealNext 49 h = some (0, h)) ∨ ∃ c' h', nxt n c = some c' ∧ f_X3_dealNext 49 h = some (1, h') ∧ (∀ x, x ≠ 52 → h' x = h x) ∧ q_RW (h' 52) n c' := by
  unfold f_X3_dealNext nxt
  rw [h8, lt_s2]
  obtain ⟨f, hf⟩ := fu_s 20 (by decide)
  cases n with
  | zero =>
    left
    refine ⟨rfl, ?_⟩
    rw [show nI 0 - 2 = -2 by decide, hf, f_X3_dealNext_7, if_pos (by decide)]
    unfold f_X3_dealNext_34
    rw [if_neg (by decide)]
  | succ n =>
    rw [m2_eq, x_piv hn hR n fu (by omega) (fu_ge _ (by omega)), show n + 1 - 1 = n by omega]
    cases hp : pvf c n with
    | none => exact Or.inl ⟨rfl, rfl⟩
    | some i =>
      right
      obtain ⟨p1, p2⟩ := pvf_s hp
      obtain ⟨j1, j2, j3⟩ := jf_s (c := c) (v := c i) (m := i + 1) p2 (k := n + 1) (by omega)
      obtain ⟨h1, s1, s2, s3⟩ := x_swap (i := i) (j := jf c (c i) (n + 1)) (by omega) (by omega) h
      obtain ⟨h2, r1, r2, r3⟩ := x_rv hn 6 fu (i + 1) n (sw c i (jf c (c i) (n + 1))) h1 (fu_ge _ (by decide)) (by omega) (by omega) (by omega) (by rw [s3]; exact q_RW_sw hR (by omega) (by omega))
      refine ⟨_, h2, rfl, ?_, fun x hx => by rw [r2 x hx, s2 x hx], r3⟩
      show f_X3_dealNext_34 49 (nI i) h = some (1, h2)
      unfold f_X3_dealNext_34
      rw [if_pos (nI_pos' (by omega)), lt_s2, h8, x_jf hn hR (m := i + 1) (by omega) p2 (n + 1) fu (Nat.le_refl _) (fu_ge _ (by omega)) (by omega)]
      unfold f_X3_dealNext_73
      rw [s1, bd_s, lt_s2, lt_s2, nI_1, s2 49 (by decide), h8, nI_pred]
      exact r1
theorem m_jf {n : Nat} (hn : n ≤ 6) {c : Nat → Nat} {h : AH} (hR : q_RW (h 14) n c) {i m : Nat} (hi : i < m) (hm : c i < c m) : ∀ (k fuel : Nat), k ≤ n → k < fuel → m < k → f_X8_nextCharters_48 0 fuel (nI n) (nI i) (nI k - 1) h = bd (f_X8_swap 0 (nI i) (nI (jf c (c i) k)) h) (fun _ h_3 => f_X8_nextCharters_85 0 fu (nI n - 1) (nI i + 1) h_3) := by
  intro k
  induction k with
  | zero => intro fuel _ _ h0; omega
  | succ k ih =>
    intro fuel hk hf hmk
    obtain ⟨f, rfl⟩ : ∃ f, fuel = f + 1 := ⟨fuel - 1, by omega⟩
    rw [nI_pred, f_X8_nextCharters_48, ck_nI _ (by omega) (by decide), ck_nI _ (by omega) (by decide), cl_nI (by omega), cl_nI (by omega), Nat.zero_add]
    unfold jf
    by_cases e : c i < c k
    · rw [if_pos ((q_cmp hR (by omega) (by omega)).mpr e), if_pos e]
      rfl
    · rw [if_neg (fun z => e ((q_cmp hR (by omega) (by omega)).mp z)), if_neg e, lt_s2, m1_eq]
      have : m ≠ k := fun q => e (by rw [← q]; exact hm)
      exact ih f (by omega) (by omega) (by omega)
theorem m_piv {n : Nat} (hn : n ≤ 6) {c : Nat → Nat} {h : AH} (hR : q_RW (h 14) n c) : ∀ (k fuel : Nat), k + 1 ≤ n → k < fuel → f_X8_nextCharters_11 0 fuel (nI n) (nI k - 1) h = match pvf c k with
    | none => some (0, h)
    | some i => f_X8_nextCharters_38 0 (nI n) (nI i) h := by
  intro k
  induction k with
  | zero =>
    intro fuel hk hf
    obtain ⟨f, rfl⟩ : ∃ f, fuel = f + 1 := ⟨fuel - 1, by omega⟩
    rw [show nI 0 - 1 = -1 by decide, f_X8_nextCharters_11, if_pos (by decide)]
    unfold f_X8_nextCharters_38
    rw [if_neg (by decide)]
    rfl
  | succ k ih =>
    intro fuel hk hf
    obtain ⟨f, rfl⟩ : ∃ f, fuel = f + 1 := ⟨fuel - 1, by omega⟩
    rw [nI_pred, f_X8_nextCharters_11, if_neg (nI_pos (by omega)), ck_nI _ (by omega) (by decide), lt_s2, nI_1, ck_nI _ (by omega) (by decide), cl_nI (by omega), cl_nI (by omega), Nat.zero_add]
    unfold pvf
    by_cases e : c k < c (k + 1)
    · rw [if_pos ((q_cmp hR (by omega) (by omega)).mpr e), if_pos e]
    · rw [if_neg (fun z => e ((q_cmp hR (by omega) (by omega)).mp z)), if_neg e, lt_s2, m1_eq]
      exact ih f (by omega) (by omega)
theorem m_nextC {n : Nat} (hn : n ≤ 6) {c : Nat → Nat} {h : AH} (hR : q_RW (h 14) n c) (h8 : h 4 0 = nI n) : (nxt n c = none ∧ f_X8_nextCharters 0 h = some (0, h)) ∨ ∃ c' h', nxt n c = some c' ∧ f_X8_nextCharters 0 h = some (1, h') ∧ (∀ x, x ≠ 14 → h' x = h x) ∧ q_RW (h' 14) n c' := by
  unfold f_X8_nextCharters nxt
  rw [ck0_100, cl_0, Nat.zero_add, h8, lt_s2, lt_s2]
  obtain ⟨f, hf⟩ := fu_s 20 (by decide)
  cases n with
  | zero =>
    left
    refine ⟨rfl, ?_⟩
    rw [show nI 0 - 2 = -2 by decide, hf, f_X8_nextCharters_11, if_pos (by decide)]
    unfold f_X8_nextCharters_38
    rw [if_neg (by decide)]
  | succ n =>
    rw [m2_eq, m_piv hn hR n fu (by omega) (fu_ge _ (by omega)), show n + 1 - 1 = n by omega]
    cases hp : pvf c n with
    | none => exact Or.inl ⟨rfl, rfl⟩
    | some i =>
      right
      obtain ⟨p1, p2⟩ := pvf_s hp
      obtain ⟨j1, j2, j3⟩ := jf_s (c := c) (v := c i) (m := i + 1) p2 (k := n + 1) (by omega)
      obtain ⟨h1, s1, s2, s3⟩ := m_swap (i := i) (j := jf c (c i) (n + 1)) (by omega) (by omega) h
      obtain ⟨h2, r1, r2, r3⟩ := m_rv hn 6 fu (i + 1) n (sw c i (jf c (c i) (n + 1))) h1 (fu_ge _ (by decide)) (by omega) (by omega) (by omega) (by rw [s3]; exact q_RW_sw hR (by omega) (by omega))
      refine ⟨_, h2, rfl, ?_, fun x hx => by rw [r2 x hx, s2 x hx], r3⟩
      show f_X8_nextCharters_38 0 (nI (n + 1)) (nI i) h = some (1, h2)
      unfold f_X8_nextCharters_38
      rw [if_pos (nI_pos' (by omega)), lt_s2, m_jf hn hR (m := i + 1) (by omega) p2 (n + 1) fu (Nat.le_refl _) (fu_ge _ (by omega)) (by omega), s1, bd_s, nI_1, nI_pred]
      exact r1
/-! ===== sorting ===== -/
theorem x_sort12 {n : Nat} (hn : n ≤ 6) {e : Nat} (he : e < n) {c0 : Nat → Nat} {K : Int32 → AH → Option (Unit × AH)} {h0 : AH} : ∀ (i fuel : Nat) (c : Nat → Nat) (h : AH), i < fuel → i ≤ e → q_RW (h 52) n c → (∀ x, x ≠ 52 → h x = h0 x) → (∀ x, gc c 0 n x = gc c0 0 n x) → (∀ a b, a < b → b ≤ e → a ≠ i → b ≠ i → c a ≤ c b) → (∀ b, i < b → b ≤ e → c i ≤ c b) → ∃ c' h', f_X3_sortCharters_12 49 K fuel (nI e) (nI i) h = K (nI (e + 1)) h' ∧ q_RW (h' 52) n c' ∧ (∀ x, x ≠ 52 → h' x = h0 x) ∧ (∀ x, gc c' 0 n x = gc c0 0 n x) ∧ srd c' (e + 1) := by
  intro i
  induction i with
  | zero =>
    intro fuel c h hf hi hR hF hG h1 h2
    obtain ⟨f, rfl⟩ : ∃ f, fuel = f + 1 := ⟨fuel - 1, by omega⟩
    rw [f_X3_sortCharters_12, if_pos (show nI 0 ≤ 0 by decide), lt_s2, nI_1]
    refine ⟨c, h, rfl, hR, hF, hG, fun a b hab hb => ?_⟩
    by_cases q : a = 0
    · rw [q]; exact h2 b (by omega) (by omega)
    · exact h1 a b hab (by omega) q (by omega)
  | succ i ih =>
    intro fuel c h hf hi hR hF hG h1 h2
    obtain ⟨f, rfl⟩ : ∃ f, fuel = f + 1 := ⟨fuel - 1, by omega⟩
    rw [f_X3_sortCharters_12, if_neg (nI_nle (by omega) (by omega)), lt_s2, nI_pred, ck_nI _ (by omega) (by decide), ck_nI _ (by omega) (by decide), cl_nI (by omega), cl_nI (by omega)]
    by_cases q : c i ≤ c (i + 1)
    · rw [if_pos ((q_cmpl hR (by omega) (by omega)).mpr q), lt_s2, nI_1]
      refine ⟨c, h, rfl, hR, hF, hG, fun a b hab hb => ?_⟩
      by_cases q1 : a = i + 1
      · rw [q1]; exact h2 b (by omega) (by omega)
      · by_cases q2 : b = i + 1
        · rw [q2]
          by_cases q3 : a = i
          · rw [q3]; exact q
          · have := h1 a i (by omega) (by omega) q1 (by omega)
            omega
        · exact h1 a b hab (by omega) q1 q2
    · obtain ⟨g, s1, s2, s3⟩ := x_swap (i := i) (j := i + 1) (by omega) (by omega) h
      rw [if_neg (fun z => q ((q_cmpl hR (by omega) (by omega)).mp z)), s1, bd_s, lt_s2, pk_m1]
      refine ih f (sw c i (i + 1)) g (by omega) (by omega) (by rw [s3]; exact q_RW_sw hR (by omega) (by omega)) (fun x hx => by rw [s2 x hx, hF x hx]) (fun x => by rw [gc_sw _ _ (by omega) (by omega), hG]) (fun a b hab hb ha' hb' => ?_) (fun b hb hbe => ?_)
      · by_cases q1 : a = i + 1
        · rw [q1, sw_j, sw_o _ (by omega) (by omega)]
          exact h1 i b (by omega) hb (by omega) (by omega)
        · rw [sw_o _ ha' q1]
          by_cases q2 : b = i + 1
          · rw [q2, sw_j]
            exact h1 a i (by omega) (by omega) q1 (by omega)
          · rw [sw_o _ hb' q2]
            exact h1 a b hab hb q1 q2
      · rw [sw_i]
        by_cases q2 : b = i + 1
        · rw [q2, sw_j]; omega
        · rw [sw_o _ (by omega) q2]
          exact h2 b (by omega) hbe
theorem x_sort2 {n : Nat} (hn : n ≤ 6) {c0 : Nat → Nat} {h0 : AH} (h8 : h0 49 8 = nI n) : ∀ (r fuel e : Nat) (c : Nat → Nat) (h : AH), e + r = n → r < fuel → 1 ≤ e → q_RW (h 52) n c → (∀ x, x ≠ 52 → h x = h0 x) → (∀ x, gc c 0 n x = gc c0 0 n x) → srd c e → ∃ c' h', f_X3_sortCharters_2 49 fuel (nI e) h = some ((), h') ∧ q_RW (h' 52) n c' ∧ (∀ x, x ≠ 52 → h' x = h0 x) ∧ (∀ x, gc c' 0 n x = gc c0 0 n x) ∧ srd c' n := by
  intro r
  induction r with
  | zero =>
    intro fuel e c h he hf h1 hR hF hG hs
    obtain ⟨f, rfl⟩ : ∃ f, fuel = f + 1 := ⟨fuel - 1, by omega⟩
    rw [f_X3_sortCharters_2, hF 49 (by decide), h8, if_pos (nI_le (by omega) (by omega))]
    have : e = n := by omega
    subst this
    exact ⟨c, h, rfl, hR, hF, hG, hs⟩
  | succ r ih =>
    intro fuel e c h he hf h1 hR hF hG hs
    obtain ⟨f, rfl⟩ : ∃ f, fuel = f + 1 := ⟨fuel - 1, by omega⟩
    rw [f_X3_sortCharters_2, hF 49 (by decide), h8, if_neg (nI_ge (by omega) (by omega))]
    obtain ⟨c', h', r1, r2, r3, r4, r5⟩ := x_sort12 hn (e := e) (by omega) (c0 := c0) (K := f_X3_sortCharters_2 49 f) (h0 := h0) e fu c h (fu_ge _ (by omega)) (Nat.le_refl _) hR hF hG (fun a b hab hb ha' hb' => hs a b hab (by omega)) (fun b hb hbe => by omega)
    rw [r1]
    exact ih f (e + 1) c' h' (by omega) (by omega) (by omega) r2 r3 r4 r5
theorem x_sort {n : Nat} (hn : n ≤ 6) {c : Nat → Nat} {h : AH} (hR : q_RW (h 52) n c) (h8 : h 49 8 = nI n) : ∃ c' h', f_X3_sortCharters 49 h = some ((), h') ∧ q_RW (h' 52) n c' ∧ (∀ x, x ≠ 52 → h' x = h x) ∧ (∀ x, gc c' 0 n x = gc c 0 n x) ∧ srd c' n := by
  unfold f_X3_sortCharters
  by_cases n0 : n = 0
  · subst n0
    obtain ⟨f, hf⟩ := fu_s 20 (by decide)
    rw [hf, f_X3_sortCharters_2, h8, if_pos (by decide)]
    exact ⟨c, h, rfl, hR, fun _ _ => rfl, fun _ => rfl, fun a b hab hb => by omega⟩
  · exact x_sort2 hn h8 (n - 1) fu 1 c h (by omega) (fu_ge _ (by omega)) (Nat.le_refl _) hR (fun _ _ => rfl) (fun _ => rfl) (fun a b hab hb => by omega)
theorem m_sort18 {n : Nat} (hn : n ≤ 6) {i : Nat} (hi : i < n) {c0 : Nat → Nat} {K : Int32 → AH → Option (Unit × AH)} {h0 : AH} (h8 : h0 4 0 = nI n) : ∀ (r fuel j : Nat) (c : Nat → Nat) (h : AH), j + 1 + r = n → r < fuel → q_RW (h 14) n c → (∀ x, x ≠ 14 → h x = h0 x) → (∀ x, gc c 0 n x = gc c0 0 n x) → (∀ a b, a < b → b < n → n ≤ b + i → c a ≤ c b) → (∀ a, a < j → c a ≤ c j) → (n ≤ j + i + 1 → ∀ a b, a < b → b < n → n ≤ b + i + 1 → c a ≤ c b) → ∃ c' h', f_X8_sortCharters_18 0 K fuel (nI i) (nI j) h = K (nI (i + 1)) h' ∧ q_RW (h' 14) n c' ∧ (∀ x, x ≠ 14 → h' x = h0 x) ∧ (∀ x, gc c' 0 n x = gc c0 0 n x) ∧ ∀ a b, a < b → b < n → n ≤ b + (i + 1) → c' a ≤ c' b := by
  intro r
  induction r with
  | zero =>
    intro fuel j c h hj hf hR hF hG hA hB hC
    obtain ⟨f, rfl⟩ : ∃ f, fuel = f + 1 := ⟨fuel - 1, by omega⟩
    rw [f_X8_sortCharters_18, ck0_100, cl_0, Nat.zero_add, hF 4 (by decide), h8, nI_1, if_pos (nI_le (by omega) (by omega)), lt_s2, nI_1]
    exact ⟨c, h, rfl, hR, hF, hG, fun a b hab hb hn' => hC (by omega) a b hab hb (by omega)⟩
  | succ r ih =>
    intro fuel j c h hj hf hR hF hG hA hB hC
    obtain ⟨f, rfl⟩ : ∃ f, fuel = f + 1 := ⟨fuel - 1, by omega⟩
    rw [f_X8_sortCharters_18, ck0_100, cl_0, Nat.zero_add, hF 4 (by decide), h8, nI_1, if_neg (nI_ge (by omega) (by omega)), ck_nI _ (by omega) (by decide), lt_s2, ck_nI _ (by omega) (by decide), cl_nI (by omega), cl_nI (by omega), Nat.zero_add]
    by_cases q : c j ≤ c (j + 1)
    · rw [if_pos ((q_cmpl hR (by omega) (by omega)).mpr q), lt_s2]
      refine ih f (j + 1) c h (by omega) (by omega) hR hF hG hA (fun a ha => ?_) (fun hn1 a b hab hb hn2 => ?_)
      · by_cases q1 : a = j
        · rw [q1]; exact q
        · have := hB a (by omega); omega
      · by_cases q1 : n ≤ b + i
        · exact hA a b hab hb q1
        · by_cases q2 : b = j + 1
          · rw [q2]
            by_cases q3 : a = j
            · rw [q3]; exact q
            · have := hB a (by omega); omega
          · exact hC (by omega) a b hab hb (by omega)
    · obtain ⟨g, s1, s2, s3⟩ := m_swap (i := j) (j := j + 1) (by omega) (by omega) h
      rw [if_neg (fun z => q ((q_cmpl hR (by omega) (by omega)).mp z)), s1, bd_s, lt_s2]
      have far : ¬ n ≤ j + 1 + i := fun z => q (hA j (j + 1) (by omega) (by omega) z)
      have hA' : ∀ a b, a < b → b < n → n ≤ b + i → sw c j (j + 1) a ≤ sw c j (j + 1) b := fun a b hab hb hn1 => by
        rw [sw_o (x := b) _ (by omega) (by omega)]
        by_cases q1 : a = j
        · rw [q1, sw_i]; exact hA (j + 1) b (by omega) hb hn1
        · by_cases q2 : a = j + 1
          · rw [q2, sw_j]; exact hA j b (by omega) hb hn1
          · rw [sw_o _ q1 q2]; exact hA a b hab hb hn1
      have hB' : ∀ a, a < j + 1 → sw c j (j + 1) a ≤ sw c j (j + 1) (j + 1) := fun a ha => by
        rw [sw_j]
        by_cases q1 : a = j
        · rw [q1, sw_i]; omega
        · rw [sw_o _ q1 (by omega)]; exact hB a (by omega)
      refine ih f (j + 1) (sw c j (j + 1)) g (by omega) (by omega) (by rw [s3]; exact q_RW_sw hR (by omega) (by omega)) (fun x hx => by rw [s2 x hx, hF x hx]) (fun x => by rw [gc_sw _ _ (by omega) (by omega), hG]) hA' hB' (fun hn1 a b hab hb hn2 => ?_)
      by_cases q1 : n ≤ b + i
      · exact hA' a b hab hb q1
      · have e : b = j + 1 := by omega
        rw [e]; exact hB' a (by omega)
theorem m_sort6 {n : Nat} (hn : n ≤ 6) {c0 : Nat → Nat} {h0 : AH} (h8 : h0 4 0 = nI n) : ∀ (r fuel i : Nat) (c : Nat → Nat) (h : AH), i + r = n → r < fuel → q_RW (h 14) n c → (∀ x, x ≠ 14 → h x = h0 x) → (∀ x, gc c 0 n x = gc c0 0 n x) → (∀ a b, a < b → b < n → n ≤ b + i → c a ≤ c b) → ∃ c' h', f_X8_sortCharters_6 0 fuel (nI i) h = some ((), h') ∧ q_RW (h' 14) n c' ∧ (∀ x, x ≠ 14 → h' x = h0 x) ∧ (∀ x, gc c' 0 n x = gc c0 0 n x) ∧ srd c' n := by
  intro r
  induction r with
  | zero =>
    intro fuel i c h hi hf hR hF hG hA
    obtain ⟨f, rfl⟩ : ∃ f, fuel = f + 1 := ⟨fuel - 1, by omega⟩
    rw [f_X8_sortCharters_6, ck0_100, cl_0, Nat.zero_add, hF 4 (by decide), h8, if_pos (nI_le (by omega) (by omega))]
    exact ⟨c, h, rfl, hR, hF, hG, fun a b hab hb => hA a b hab hb (by omega)⟩
  | succ r ih =>
    intro fuel i c h hi hf hR hF hG hA
    obtain ⟨f, rfl⟩ : ∃ f, fuel = f + 1 := ⟨fuel - 1, by omega⟩
    rw [f_X8_sortCharters_6, ck0_100, cl_0, Nat.zero_add, hF 4 (by decide), h8, if_neg (nI_ge (by omega) (by omega)), show (0 : Int32) = nI 0 from rfl]
    obtain ⟨c', h', r1, r2, r3, r4, r5⟩ := m_sort18 hn (i := i) (by omega) (c0 := c0) (K := f_X8_sortCharters_6 0 f) (h0 := h0) h8 (n - 1) fu 0 c h (by omega) (fu_ge _ (by omega)) hR hF hG hA (fun a ha => absurd ha (Nat.not_lt_zero a)) (fun hn1 a b hab hb hn2 => hA a b hab hb (by omega))
    rw [r1]
    exact ih f (i + 1) c' h' (by omega) (by omega) r2 r3 r4 r5
theorem m_sort {σ : Sg} (w : WFs σ) {h : AH} (hM : MR (h 4) σ) : ∃ c' h', f_X8_sortCharters 0 h = some ((), h') ∧ q_RW (h' 14) (σ 0 0) c' ∧ (∀ x, x ≠ 14 → h' x = h x) ∧ (∀ x, gc c' 0 (σ 0 0) x = gc (σ 2) 0 (σ 0 0) x) ∧ srd c' (σ 0 0) := by
  have w0 := w.1
  obtain ⟨h1, l1, l2, l3⟩ := m_lay w hM
  unfold f_X8_sortCharters
  rw [l1, bd_s, show (0 : Int32) = nI 0 from rfl]
  obtain ⟨c', h', r1, r2, r3, r4, r5⟩ := m_sort6 w0 (c0 := σ 2) (h0 := h1) (by rw [l2 4 (by decide)]; exact hM.1) (σ 0 0) fu 0 (σ 2) h1 (by omega) (fu_ge _ (by omega)) (fun a ha => ⟨(wf_a w ha).1, l3 a ha⟩) (fun _ _ => rfl) (fun _ => rfl) (fun a b hab hb hn1 => by omega)
  exact ⟨c', h', r1, r2, fun x hx => by rw [r3 x hx, l2 x hx], r4, r5⟩
