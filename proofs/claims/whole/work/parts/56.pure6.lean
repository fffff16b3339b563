-- acts: how both sides keep them
theorem rem24 {v : Nat} (h : v < 2 ^ 31) : nI v - nI v / nI 24 * nI 24 = nI (v % 24) := pk_rem h (by decide) (by decide)
/-- the ring behind one act more -/
def oN (o n : Nat) : Nat := if n = 24 then (o + 1) % 24 else o
def nN (n : Nat) : Nat := if n = 24 then 23 else n
theorem x_keep32 {g : AH} {o n : Nat} (ho : o < 24) (hn : n < 24) (e4 : g 44 4 = nI o) (e5 : g 44 5 = nI n) (w f s t : Int32) : f_X0_keep_32 44 w f s t g = some ((), hset (hset (hset (hset (hset g 45 ((o + n) % 24) w) 46 ((o + n) % 24) f) 47 ((o + n) % 24) s) 48 ((o + n) % 24) t) 44 5 (nI (n + 1))) := by
  have hm : (o + n) % 24 < 24 := Nat.mod_lt _ (by decide)
  unfold f_X0_keep_32
  rw [e4, e5, nI_add, lt_s2, L24, rem24 (by omega), lt_s2]
  simp (disch := omega) only [lt_s2, ck_nI, cl_nI, Nat.reduceAdd]
  rw [hs_cell _ _ _ _ 44 (by decide), hs_cell _ _ _ _ 44 (by decide), hs_cell _ _ _ _ 44 (by decide), hs_cell _ _ _ _ 44 (by decide), e5, L1, nI_add]
theorem x_keepW {g : AH} {o n p : Nat} (e4 : g 44 4 = nI o) (w f s t : Int32) : (∀ c, c ≠ 44 → c ≠ 45 → c ≠ 46 → c ≠ 47 → c ≠ 48 → (hset (hset (hset (hset (hset g 45 p w) 46 p f) 47 p s) 48 p t) 44 5 (nI n)) c = g c) ∧ (hset (hset (hset (hset (hset g 45 p w) 46 p f) 47 p s) 48 p t) 44 5 (nI n)) 44 4 = nI o ∧ (hset (hset (hset (hset (hset g 45 p w) 46 p f) 47 p s) 48 p t) 44 5 (nI n)) 44 5 = nI n ∧ (hset (hset (hset (hset (hset g 45 p w) 46 p f) 47 p s) 48 p t) 44 5 (nI n)) 45 = upd (g 45) p w ∧ (hset (hset (hset (hset (hset g 45 p w) 46 p f) 47 p s) 48 p t) 44 5 (nI n)) 46 = upd (g 46) p f ∧ (hset (hset (hset (hset (hset g 45 p w) 46 p f) 47 p s) 48 p t) 44 5 (nI n)) 47 = upd (g 47) p s ∧ (hset (hset (hset (hset (hset g 45 p w) 46 p f) 47 p s) 48 p t) 44 5 (nI n)) 48 = upd (g 48) p t := by
  refine ⟨?_, ?_, ?_, ?_, ?_, ?_, ?_⟩
  · intro c c1 c2 c3 c4 c5
    rw [hs_cell _ _ _ _ _ c1, hs_cell _ _ _ _ _ c5, hs_cell _ _ _ _ _ c4, hs_cell _ _ _ _ _ c3, hs_cell _ _ _ _ _ c2]
  · rw [hs_place _ _ _ _ _ (by decide), hs_cell _ _ _ _ _ (by decide), hs_cell _ _ _ _ _ (by decide), hs_cell _ _ _ _ _ (by decide), hs_cell _ _ _ _ _ (by decide), e4]
  · rw [hs_self]
  · rw [hs_cell _ _ _ _ _ (by decide), hs_cell _ _ _ _ _ (by decide), hs_cell _ _ _ _ _ (by decide), hs_cell _ _ _ _ _ (by decide), hs_row]
  · rw [hs_cell _ _ _ _ _ (by decide), hs_cell _ _ _ _ _ (by decide), hs_cell _ _ _ _ _ (by decide), hs_row, hs_cell _ _ _ _ _ (by decide)]
  · rw [hs_cell _ _ _ _ _ (by decide), hs_cell _ _ _ _ _ (by decide), hs_row, hs_cell _ _ _ _ _ (by decide), hs_cell _ _ _ _ _ (by decide)]
  · rw [hs_cell _ _ _ _ _ (by decide), hs_row, hs_cell _ _ _ _ _ (by decide), hs_cell _ _ _ _ _ (by decide), hs_cell _ _ _ _ _ (by decide)]
theorem x_keepF {h : AH} {o : Nat} (ho : o < 24) (e4 : h 44 4 = nI o) (e5 : h 44 5 = nI 24) (w f s t : Int32) : f_X0_keep 44 w f s t h = f_X0_keep_32 44 w f s t (hset (hset h 44 4 (nI ((o + 1) % 24))) 44 5 (nI 23)) := by
  have g5 : hset h 44 4 (nI ((o + 1) % 24)) 44 5 = nI 24 := by rw [hs_place _ _ _ _ _ (by decide), e5]
  unfold f_X0_keep
  rw [e5, L24, if_pos rfl, e4, L1, nI_add, lt_s2, rem24 (by omega), lt_s2, lt_s2, g5, pk_sub (by omega)]
theorem x_keepN {h : AH} {n : Nat} (hn : n < 24) (e5 : h 44 5 = nI n) (w f s t : Int32) : f_X0_keep 44 w f s t h = f_X0_keep_32 44 w f s t h := by
  unfold f_X0_keep
  rw [e5, L24, if_neg (fun z => by have := (nI_eq (by omega) (by decide)).mp z; omega)]
theorem x_keep {h : AH} {o n : Nat} (ho : o < 24) (hn : n ≤ 24) (e4 : h 44 4 = nI o) (e5 : h 44 5 = nI n) (w f s t : Int32) : ∃ h2 : AH, f_X0_keep 44 w f s t h = some ((), h2) ∧ (∀ c, c ≠ 44 → c ≠ 45 → c ≠ 46 → c ≠ 47 → c ≠ 48 → h2 c = h c) ∧ h2 44 4 = nI (oN o n) ∧ h2 44 5 = nI (nN n + 1) ∧ h2 45 = upd (h 45) ((oN o n + nN n) % 24) w ∧ h2 46 = upd (h 46) ((oN o n + nN n) % 24) f ∧ h2 47 = upd (h 47) ((oN o n + nN n) % 24) s ∧ h2 48 = upd (h 48) ((oN o n + nN n) % 24) t := by
  by_cases c : n = 24
  · have eo : oN o n = (o + 1) % 24 := by unfold oN; rw [if_pos c]
    have en : nN n = 23 := by unfold nN; rw [if_pos c]
    rw [c] at e5
    have g4 : (hset (hset h 44 4 (nI ((o + 1) % 24))) 44 5 (nI 23)) 44 4 = nI ((o + 1) % 24) := by rw [hs_place _ _ _ _ _ (by decide), hs_self]
    obtain ⟨q2, q3, q4, q5, q6, q7, q8⟩ := x_keepW (n := 23 + 1) (p := ((o + 1) % 24 + 23) % 24) g4 w f s t
    rw [eo, en]
    refine ⟨_, (x_keepF ho e4 e5 w f s t).trans (x_keep32 (Nat.mod_lt _ (by decide)) (by decide) g4 (by rw [hs_self]) w f s t), fun c c1 c2 c3 c4 c5 => ?_, q3, q4, ?_, ?_, ?_, ?_⟩
    · rw [q2 c c1 c2 c3 c4 c5, hs_cell _ _ _ _ _ c1, hs_cell _ _ _ _ _ c1]
    · rw [q5, hs_cell _ _ _ _ _ (by decide), hs_cell _ _ _ _ _ (by decide)]
    · rw [q6, hs_cell _ _ _ _ _ (by decide), hs_cell _ _ _ _ _ (by decide)]
    · rw [q7, hs_cell _ _ _ _ _ (by decide), hs_cell _ _ _ _ _ (by decide)]
    · rw [q8, hs_cell _ _ _ _ _ (by decide), hs_cell _ _ _ _ _ (by decide)]
  · have eo : oN o n = o := by unfold oN; rw [if_neg c]
    have en : nN n = n := by unfold nN; rw [if_neg c]
    obtain ⟨q2, q3, q4, q5, q6, q7, q8⟩ := x_keepW (n := n + 1) (p := (o + n) % 24) e4 w f s t
    rw [eo, en]
    exact ⟨_, (x_keepN (by omega) e5 w f s t).trans (x_keep32 ho (by omega) e4 e5 w f s t), q2, q3, q4, q5, q6, q7, q8⟩
/-- what the model's snapshots become -/
def wN (was br : Nat → Int32) (n : Nat) : Nat → Int32 := fun j => if 100 * nN n ≤ j ∧ j < 100 * nN n + 100 then br (j - 100 * nN n) else if n = 24 ∧ j < 2300 then was (j + 100) else was j
theorem m_keep51 (n : Nat) (hn : n < 24) : ∀ (k fuel i : Nat) (h : AH), i + k = 100 → k < fuel → h 0 9 = nI n → f_X8_keep_51 0 fuel (nI i) h = some ((), hset (hput h 6 (fun j => if 100 * n + i ≤ j ∧ j < 100 * n + 100 then h 4 (j - 100 * n) else h 6 j)) 0 9 (nI (n + 1))) := by
  intro k
  induction k with
  | zero =>
    intro fuel i h e hf e9
    obtain ⟨f, rfl⟩ : ∃ f, fuel = f + 1 := ⟨fuel - 1, by omega⟩
    rw [f_X8_keep_51]
    simp (disch := omega) only [lt_s2, bd_s, bh_s, gz_0, gz_1, L0, L1, L2, L3, L4, L5, L6, L7, L8, L9, L10, L11, L12, L13, L14, L15, L16, L17, L18, L19, L20, L21, L22, L23, L24, L30, L31, L32, L36, L39, L40, L48, L57, L58, L59, L71, L72, L97, L99, L100, L122, L143, L144, L255, L320, L500, L720, L1000, L2300, L2400, nI_add, pk_mul, nI_leI, nI_ltI, nI_eqI, ck_nI, cl_nI, Nat.zero_add, Nat.add_zero, Nat.reduceAdd, Nat.reduceMul, if_pos, if_neg, if_true, if_false, e9]
    rw [show (fun j => h 6 j) = h 6 from rfl, hput_id]
  | succ k ih =>
    intro fuel i h e hf e9
    obtain ⟨f, rfl⟩ : ∃ f, fuel = f + 1 := ⟨fuel - 1, by omega⟩
    rw [f_X8_keep_51]
    simp (disch := omega) only [lt_s2, bd_s, bh_s, gz_0, gz_1, L0, L1, L2, L3, L4, L5, L6, L7, L8, L9, L10, L11, L12, L13, L14, L15, L16, L17, L18, L19, L20, L21, L22, L23, L24, L30, L31, L32, L36, L39, L40, L48, L57, L58, L59, L71, L72, L97, L99, L100, L122, L143, L144, L255, L320, L500, L720, L1000, L2300, L2400, nI_add, pk_mul, nI_leI, nI_ltI, nI_eqI, ck_nI, cl_nI, Nat.zero_add, Nat.add_zero, Nat.reduceAdd, Nat.reduceMul, if_pos, if_neg, if_true, if_false, e9]
    rw [ih f (i + 1) _ (by omega) (by omega) (by rw [hs_cell _ _ _ _ _ (by decide), e9]), hput_hset, hs_cell _ _ _ _ 4 (by decide), hs_row]
    congr 4
    funext j
    unfold upd
    by_cases c : j = 100 * n + i
    · subst c
      rw [if_neg (by omega), if_pos rfl, if_pos (by omega)]
      congr 1
      omega
    · rw [if_neg c]
      by_cases c2 : 100 * n + (i + 1) ≤ j ∧ j < 100 * n + 100
      · rw [if_pos c2, if_pos (by omega)]
      · rw [if_neg c2, if_neg (by omega)]
theorem m_keep11 (W : Nat → Int32) : ∀ (k fuel i : Nat) (h : AH), i + k = 2300 → k < fuel → h 6 = (fun j => if j < i then W (j + 100) else W j) → f_X8_keep_11 0 fuel (nI i) h = f_X8_keep_51 0 fu 0 (hset (hput h 6 (fun j => if j < 2300 then W (j + 100) else W j)) 0 9 (h 0 9 - 1)) := by
  intro k
  induction k with
  | zero =>
    intro fuel i h e hf e6
    obtain ⟨f, rfl⟩ : ∃ f, fuel = f + 1 := ⟨fuel - 1, by omega⟩
    have : i = 2300 := by omega
    subst this
    rw [f_X8_keep_11, if_pos (show (2300 : Int32) ≤ nI 2300 from Int32.le_refl _), lt_s2, ← e6, hput_id]
  | succ k ih =>
    intro fuel i h e hf e6
    obtain ⟨f, rfl⟩ : ∃ f, fuel = f + 1 := ⟨fuel - 1, by omega⟩
    rw [f_X8_keep_11, if_neg (show ¬ (2300 : Int32) ≤ nI i from nI_ge (b := 2300) (by omega) (by decide))]
    rw [show nI i + 100 = nI (i + 100) from nI_add i 100, show nI i + 1 = nI (i + 1) from nI_add i 1]
    simp (disch := omega) only [lt_s2, ck_nI, cl_nI, Nat.zero_add]
    rw [ih f (i + 1) _ (by omega) (by omega) ?_, hput_hset, hs_cell _ _ _ _ 0 (by decide)]
    rw [hs_row, e6]
    funext j
    unfold upd
    by_cases c : j = i
    · subst c
      rw [if_pos rfl, if_pos (by omega)]
      show (if j + 100 < j then _ else _) = _
      rw [if_neg (by omega)]
    · rw [if_neg c]
      show (if j < i then _ else _) = _
      by_cases c2 : j < i
      · rw [if_pos c2, if_pos (by omega)]
      · rw [if_neg c2, if_neg (by omega)]
theorem m_keep {h : AH} {n : Nat} (hn : n ≤ 24) (e9 : h 0 9 = nI n) : ∃ h2 : AH, f_X8_keep 0 h = some ((), h2) ∧ (∀ c, c ≠ 0 → c ≠ 6 → h2 c = h c) ∧ (∀ k, k ≠ 9 → h2 0 k = h 0 k) ∧ h2 0 9 = nI (nN n + 1) ∧ h2 6 = wN (h 6) (h 4) n := by
  unfold f_X8_keep nN wN nN
  by_cases c : n = 24
  · subst c
    rw [e9, if_pos rfl, L0, m_keep11 (h 6) 2300 fu 0 h (by omega) (fu_ge _ (by omega)) (funext fun j => (if_neg (by omega)).symm), e9, show nI 24 - 1 = nI 23 from rfl, L0, m_keep51 23 (by decide) 100 fu 0 _ (by omega) (fu_ge _ (by omega)) (by rw [hs_self])]
    refine ⟨_, rfl, fun c c0 c6 => ?_, fun k k9 => ?_, ?_, ?_⟩
    · rw [hs_cell _ _ _ _ _ c0, hput_ne _ _ c6, hs_cell _ _ _ _ _ c0, hput_ne _ _ c6]
    · rw [hs_place _ _ _ _ _ k9, hput_ne _ _ (by decide), hs_place _ _ _ _ _ k9, hput_ne _ _ (by decide)]
    · rw [hs_self]
    · rw [hs_cell _ _ _ _ _ (by decide), hput_self]
      funext j
      rw [hs_cell _ _ _ _ _ (by decide), hput_ne _ _ (by decide), hs_cell _ _ _ _ _ (by decide), hput_self]
      simp only [if_true, true_and]
  · rw [e9, if_neg (show ¬ nI n = 24 from fun z => c ((nI_eq (by omega) (by decide)).mp z)), L0, m_keep51 n (by omega) 100 fu 0 h (by omega) (fu_ge _ (by omega)) e9]
    refine ⟨_, rfl, fun c c0 c6 => ?_, fun k k9 => ?_, ?_, ?_⟩
    · rw [hs_cell _ _ _ _ _ c0, hput_ne _ _ c6]
    · rw [hs_place _ _ _ _ _ k9, hput_ne _ _ (by decide)]
    · rw [hs_self, if_neg c]
    · rw [hs_cell _ _ _ _ _ (by decide), hput_self, if_neg c]
      funext j
      simp only [c, false_and, if_false, Nat.add_zero]
theorem Ch_congr {o : Nat} {wh fi se th was wh2 fi2 se2 th2 was2 : Nat → Int32} : ∀ {n : Nat} {σ : Sg}, (∀ k, k < n → wh2 ((o + k) % 24) = wh ((o + k) % 24) ∧ fi2 ((o + k) % 24) = fi ((o + k) % 24) ∧ se2 ((o + k) % 24) = se ((o + k) % 24) ∧ th2 ((o + k) % 24) = th ((o + k) % 24)) → (∀ j, j < 100 * n → was2 j = was j) → Ch o wh fi se th was n σ → Ch o wh2 fi2 se2 th2 was2 n σ := by
  intro n
  induction n with
  | zero => intro σ _ _ _; trivial
  | succ n ih =>
    intro τ h1 h2 h
    obtain ⟨σ, q1, q2, q3, q4, q5⟩ := h
    obtain ⟨k1, k2, k3, k4⟩ := h1 n (by omega)
    refine ⟨σ, q1, q2, ?_, by rw [k1, k2, k3, k4]; exact q4, ih (fun k hk => h1 k (by omega)) (fun j hj => h2 j (by omega)) q5⟩
    have g : ∀ j, j < 100 → was2 (100 * n + j) = was (100 * n + j) := fun j hj => h2 _ (by omega)
    obtain ⟨m0, m1, m2, m3, m4, m5, m6⟩ := q3
    have w1 := q1.1
    have w2 := q1.2.1
    refine ⟨by rw [← m0]; exact g 0 (by decide), by rw [← m1]; exact g 1 (by decide), by rw [← m2]; exact g 2 (by decide), by rw [← m3]; exact g 3 (by decide), fun t ht => by rw [← m4 t ht]; exact g (4 + t) (by omega), fun a ha => ?_, fun b hb => ?_⟩
    · have := m5 a ha
      exact ⟨by rw [← this.1]; exact g _ (by omega), by rw [← this.2.1]; exact g _ (by omega), by rw [← this.2.2.1]; exact g _ (by omega), by rw [← this.2.2.2.1]; exact g _ (by omega), by rw [← this.2.2.2.2.1]; exact g _ (by omega), by rw [← this.2.2.2.2.2.1]; exact g _ (by omega), by rw [← this.2.2.2.2.2.2]; exact g _ (by omega)⟩
    · have := m6 b hb
      exact ⟨by rw [← this.1]; exact g _ (by omega), by rw [← this.2.1]; exact g _ (by omega), fun t ht => by rw [← this.2.2.1 t ht]; exact g _ (by omega), by rw [← this.2.2.2]; exact g _ (by omega)⟩
theorem Ch_drop {o : Nat} {wh fi se th was : Nat → Int32} : ∀ {n : Nat} {σ : Sg}, Ch o wh fi se th was (n + 1) σ → Ch ((o + 1) % 24) wh fi se th (fun j => was (j + 100)) n σ := by
  intro n
  induction n with
  | zero => intro σ _; trivial
  | succ n ih =>
    intro τ h
    obtain ⟨σ, q1, q2, q3, q4, q5⟩ := h
    have e : ((o + 1) % 24 + n) % 24 = (o + (n + 1)) % 24 := by omega
    refine ⟨σ, q1, q2, ?_, by rw [e]; exact q4, ih q5⟩
    have e2 : (fun j => (fun j => was (j + 100)) (100 * n + j)) = fun j => was (100 * (n + 1) + j) := funext fun j => by
      show was (100 * n + j + 100) = _
      congr 1
      omega
    rw [e2]
    exact q3
/-- one act more, on both sides -/
theorem RA_push {c0 wh fi se th was br c0' wh2 fi2 se2 th2 : Nat → Int32} {o n : Nat} {σ τ : Sg} {w f s t : Int32} (ho : o < 24) (hn : n ≤ 24) (hch : Ch o wh fi se th was n σ) (wσ : WFs σ) (hst : σ 0 4 = 1) (hst2 : τ 0 4 = 1) (hM : MR br σ) (ar : AR w f s t σ τ)
    (e4 : c0' 4 = nI (oN o n)) (e5 : c0' 5 = nI (nN n + 1)) (k1 : wh2 = upd wh ((oN o n + nN n) % 24) w) (k2 : fi2 = upd fi ((oN o n + nN n) % 24) f) (k3 : se2 = upd se ((oN o n + nN n) % 24) s) (k4 : th2 = upd th ((oN o n + nN n) % 24) t) : RA c0' wh2 fi2 se2 th2 (nI (nN n + 1)) (wN was br n) τ := by
  have hoN : oN o n < 24 := by unfold oN; split <;> omega
  have hnN : nN n < 24 := by unfold nN; split <;> omega
  refine ⟨oN o n, nN n + 1, hoN, by omega, e4, e5, rfl, fun _ => hst2, σ, wσ, hst, ?_, ?_, ?_⟩
  · have e : (fun j => wN was br n (100 * nN n + j)) = fun j => if j < 100 then br j else wN was br n (100 * nN n + j) := funext fun j => by
      by_cases c : j < 100
      · rw [if_pos c]
        show (if _ then br (100 * nN n + j - 100 * nN n) else _) = _
        rw [if_pos (by omega), Nat.add_sub_cancel_left]
      · rw [if_neg c]
    rw [e]
    obtain ⟨m0, m1, m2, m3, m4, m5, m6⟩ := hM
    have w1 := wσ.1
    have w2 := wσ.2.1
    have g : ∀ j, j < 100 → (fun j => if j < 100 then br j else wN was br n (100 * nN n + j)) j = br j := fun j hj => if_pos hj
    refine ⟨m0, m1, m2, m3, fun t ht => by rw [g _ (by omega)]; exact m4 t ht, fun a ha => ?_, fun b hb => ?_⟩
    · have := m5 a ha
      rw [g _ (by omega), g _ (by omega), g _ (by omega), g _ (by omega), g _ (by omega), g _ (by omega), g _ (by omega)]
      exact this
    · have := m6 b hb
      rw [g _ (by omega), g _ (by omega), g _ (by omega)]
      exact ⟨this.1, this.2.1, fun t ht => by rw [g _ (by omega)]; exact this.2.2.1 t ht, this.2.2.2⟩
  · rw [k1, k2, k3, k4, pk_us, pk_us, pk_us, pk_us]
    exact ar
  · have h1 : Ch (oN o n) wh fi se th (if n = 24 then (fun j => was (j + 100)) else was) (nN n) σ := by
      unfold oN nN
      by_cases c : n = 24
      · subst c
        rw [if_pos rfl, if_pos rfl, if_pos rfl]
        exact Ch_drop hch
      · rw [if_neg c, if_neg c, if_neg c]
        exact hch
    refine Ch_congr (fun k hk => ?_) (fun j hj => ?_) h1
    · have ne : (oN o n + k) % 24 ≠ (oN o n + nN n) % 24 := by omega
      rw [k1, k2, k3, k4, pk_un ne, pk_un ne, pk_un ne, pk_un ne]
      exact ⟨rfl, rfl, rfl, rfl⟩
    · show (if _ then _ else _) = _
      rw [if_neg (by omega)]
      by_cases c : n = 24
      · rw [if_pos c]
        have : nN n = 23 := by unfold nN; rw [if_pos c]
        rw [if_pos ⟨c, by omega⟩]
      · rw [if_neg c, if_neg (fun z => c z.1)]
