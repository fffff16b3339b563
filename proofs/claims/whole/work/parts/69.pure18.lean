-- tokens
def sb (v : Nat) : Int32 := (nI v).toInt8.toInt32
def so (v : Nat) : Nat := if 97 ≤ v ∧ v ≤ 122 then 1 else if 48 ≤ v ∧ v ≤ 57 then 2 else if v = 59 then 3 else 0
def bl (v : Nat) : Nat := if v = 32 ∨ v = 10 then 1 else 0
theorem bl_01 (v : Nat) : bl v = 0 ∨ bl v = 1 := by unfold bl; split; exact Or.inr rfl; exact Or.inl rfl
theorem so_le (v : Nat) : so v ≤ 3 := by unfold so; (repeat' split) <;> omega
def srt (x : Int32) : Int32 := if x < 97 then (if x < 48 then (if x = 59 then 3 else 0) else if (57 : Int32) < x then (if x = 59 then 3 else 0) else 2) else if (122 : Int32) < x then (if x < 48 then (if x = 59 then 3 else 0) else if (57 : Int32) < x then (if x = 59 then 3 else 0) else 2) else 1
theorem x_srt (x : Int32) (h : AH) : f_X6_sortOf x h = some (srt x, h) := by
  unfold f_X6_sortOf f_X6_sortOf_14 f_X6_sortOf_28 srt
  (repeat' split) <;> rfl
theorem srt_sb : ∀ v, v < 256 → srt (sb v) = nI (so v) := by decide +kernel
theorem x_sortOf {v : Nat} (hv : v < 256) (h : AH) : f_X6_sortOf (sb v) h = some (nI (so v), h) := by rw [x_srt, srt_sb v hv]
theorem bl_sb : ∀ v, v < 256 → (if sb v = 32 then (1 : Int32) else if sb v = 10 then 1 else 0) = nI (bl v) := by decide +kernel
theorem x_isBlank {v : Nat} (hv : v < 256) (h : AH) : f_X6_isBlank (sb v) h = some (nI (bl v), h) := by
  rw [← bl_sb v hv]
  unfold f_X6_isBlank
  (repeat' split) <;> rfl
theorem le_m : ∀ v, v < 256 → (if nI v < 97 then (0 : Int32) else if (122 : Int32) < nI v then 0 else 1) = nI (if so v = 1 then 1 else 0) := by decide +kernel
theorem fi_m : ∀ v, v < 256 → (if nI v < 48 then (0 : Int32) else if (57 : Int32) < nI v then 0 else 1) = nI (if so v = 2 then 1 else 0) := by decide +kernel
theorem m_isLetter {v : Nat} (hv : v < 256) (h : AH) : f_X8_isLetter (nI v) h = some (nI (if so v = 1 then 1 else 0), h) := by
  rw [← le_m v hv]
  unfold f_X8_isLetter
  (repeat' split) <;> rfl
theorem m_isFigure {v : Nat} (hv : v < 256) (h : AH) : f_X8_isFigure (nI v) h = some (nI (if so v = 2 then 1 else 0), h) := by
  rw [← fi_m v hv]
  unfold f_X8_isFigure
  (repeat' split) <;> rfl
theorem sb_n : ∀ v, v < 256 → so v ≠ 0 → sb v = nI v := by
  have : ∀ v, v < 256 → decide (so v ≠ 0) = true → sb v = nI v := by decide +kernel
  exact fun v hv h => this v hv (decide_eq_true h)
def skp (V : Nat → Nat) : Nat → Nat → Nat
  | 0, p => p
  | k + 1, p => if bl (V p) = 1 then skp V k (p + 1) else p
def rnp (V : Nat → Nat) (c : Nat) : Nat → Nat → Nat
  | 0, p => p
  | k + 1, p => if so (V p) = c then rnp V c k (p + 1) else p
theorem skp_s (V : Nat → Nat) (k p : Nat) : skp V (k + 1) p = if bl (V p) = 1 then skp V k (p + 1) else p := rfl
theorem skp_in (V : Nat → Nat) : ∀ k p, p ≤ skp V k p ∧ skp V k p ≤ p + k ∧ (skp V k p < p + k → bl (V (skp V k p)) = 0) := by
  intro k
  induction k with
  | zero => intro p; exact ⟨Nat.le_refl _, Nat.le_refl _, fun h => absurd h (Nat.lt_irrefl _)⟩
  | succ k ih =>
    intro p
    unfold skp
    by_cases c : bl (V p) = 1
    · rw [if_pos c]
      have := ih (p + 1)
      refine ⟨by omega, by omega, fun h => this.2.2 (by omega)⟩
    · rw [if_neg c]
      exact ⟨Nat.le_refl _, by omega, fun _ => (bl_01 _).resolve_right c⟩
theorem rnp_in (V : Nat → Nat) (c : Nat) : ∀ k p, p ≤ rnp V c k p ∧ rnp V c k p ≤ p + k ∧ (∀ j, p ≤ j → j < rnp V c k p → so (V j) = c) := by
  intro k
  induction k with
  | zero => intro p; exact ⟨Nat.le_refl _, Nat.le_refl _, fun j h1 h2 => absurd h2 (by unfold rnp; omega)⟩
  | succ k ih =>
    intro p
    unfold rnp
    by_cases e : so (V p) = c
    · rw [if_pos e]
      have := ih (p + 1)
      refine ⟨by omega, by omega, fun j h1 h2 => ?_⟩
      by_cases z : j = p
      · rw [z]; exact e
      · exact this.2.2 j (by omega) h2
    · rw [if_neg e]
      exact ⟨Nat.le_refl _, by omega, fun j h1 h2 => absurd h2 (by omega)⟩
/-- the token behind e: start, end, kind -/
def tks (V : Nat → Nat) (n e : Nat) : Nat := skp V (n - e) e
def tke (V : Nat → Nat) (n e : Nat) : Nat := if n ≤ tks V n e then tks V n e else if so (V (tks V n e)) = 3 ∨ so (V (tks V n e)) = 0 then tks V n e + 1 else rnp V (so (V (tks V n e))) (n - tks V n e) (tks V n e)
def tkk (V : Nat → Nat) (n e : Nat) : Nat := if n ≤ tks V n e then 4 else if so (V (tks V n e)) = 2 ∧ 3 < tke V n e - tks V n e then 0 else so (V (tks V n e))
def TF (V : Nat → Nat) (n s e k : Nat) : Prop := s ≤ e ∧ e ≤ n ∧ k ≤ 4 ∧ (k = 1 ∨ k = 2 → ∀ j, s ≤ j → j < e → so (V j) = k) ∧ (k = 2 → e - s ≤ 3)
theorem tk_f (V : Nat → Nat) {n e : Nat} (he : e ≤ n) : TF V n (tks V n e) (tke V n e) (tkk V n e) := by
  have h1 := skp_in V (n - e) e
  have hs : tks V n e ≤ n := by unfold tks; omega
  by_cases c : n ≤ tks V n e
  · have e1 : tke V n e = tks V n e := by unfold tke; rw [if_pos c]
    have e2 : tkk V n e = 4 := by unfold tkk; rw [if_pos c]
    rw [e1, e2]
    exact ⟨Nat.le_refl _, hs, by decide, fun z => by omega, fun z => by omega⟩
  · have h3 := so_le (V (tks V n e))
    by_cases c2 : so (V (tks V n e)) = 3 ∨ so (V (tks V n e)) = 0
    · have e1 : tke V n e = tks V n e + 1 := by unfold tke; rw [if_neg c, if_pos c2]
      have e2 : tkk V n e = so (V (tks V n e)) := by unfold tkk; rw [if_neg c, if_neg (by omega)]
      rw [e1, e2]
      exact ⟨by omega, by omega, by omega, fun z => by omega, fun z => by omega⟩
    · have e1 : tke V n e = rnp V (so (V (tks V n e))) (n - tks V n e) (tks V n e) := by unfold tke; rw [if_neg c, if_neg c2]
      have h2 := rnp_in V (so (V (tks V n e))) (n - tks V n e) (tks V n e)
      rw [← e1] at h2
      by_cases c3 : so (V (tks V n e)) = 2 ∧ 3 < tke V n e - tks V n e
      · have e2 : tkk V n e = 0 := by unfold tkk; rw [if_neg c, if_pos c3]
        rw [e2]
        exact ⟨by omega, by omega, by decide, fun z => by omega, fun z => by omega⟩
      · have e2 : tkk V n e = so (V (tks V n e)) := by unfold tkk; rw [if_neg c, if_neg c3]
        rw [e2]
        exact ⟨by omega, by omega, by omega, fun _ => h2.2.2, fun z => by omega⟩
-- the class's token
def XH (h : AH) (s e k : Nat) : AH := hput h 5 (fun j => if j = 3 then nI s else if j = 4 then nI e else if j = 2 then nI k else h 5 j)
theorem XH_3 (h : AH) (s e k s2 : Nat) : hset (XH h s e k) 5 3 (nI s2) = XH h s2 e k := by
  unfold XH
  rw [hset_hput]
  congr 1
  funext j
  by_cases c : j = 3
  · subst c; rw [pk_us]; rfl
  · rw [pk_un c]; simp only [if_neg c]
theorem XH_4 (h : AH) (s e k e2 : Nat) : hset (XH h s e k) 5 4 (nI e2) = XH h s e2 k := by
  unfold XH
  rw [hset_hput]
  congr 1
  funext j
  by_cases c : j = 4
  · subst c; rw [pk_us]; rfl
  · rw [pk_un c]; simp only [if_neg c]
theorem XH_2 (h : AH) (s e k k2 : Nat) : hset (XH h s e k) 5 2 (nI k2) = XH h s e k2 := by
  unfold XH
  rw [hset_hput]
  congr 1
  funext j
  by_cases c : j = 2
  · subst c; rw [pk_us]; rfl
  · rw [pk_un c]; simp only [if_neg c]
theorem XH_r3 (h : AH) (s e k : Nat) : XH h s e k 5 3 = nI s := by unfold XH; rw [hput_self]; rfl
theorem XH_r4 (h : AH) (s e k : Nat) : XH h s e k 5 4 = nI e := by unfold XH; rw [hput_self]; rfl
theorem XH_r2 (h : AH) (s e k : Nat) : XH h s e k 5 2 = nI k := by unfold XH; rw [hput_self]; rfl
theorem XH_r1 (h : AH) (s e k : Nat) : XH h s e k 5 1 = h 5 1 := by unfold XH; rw [hput_self]; rfl
theorem XH_c (h : AH) (s e k : Nat) {c : Nat} (hc : c ≠ 5) : XH h s e k c = h c := by unfold XH; rw [hput_ne _ _ hc]
theorem XH_id {h : AH} {s e k : Nat} (h3 : h 5 3 = nI s) (h4 : h 5 4 = nI e) (h2 : h 5 2 = nI k) : h = XH h s e k := by
  unfold XH
  have : (fun j => if j = 3 then nI s else if j = 4 then nI e else if j = 2 then nI k else h 5 j) = h 5 := funext fun j => by
    by_cases c3 : j = 3
    · rw [if_pos c3, c3, h3]
    · rw [if_neg c3]
      by_cases c4 : j = 4
      · rw [if_pos c4, c4, h4]
      · rw [if_neg c4]
        by_cases c2 : j = 2
        · rw [if_pos c2, c2, h2]
        · rw [if_neg c2]
  rw [this, hput_id]
def XT (h : AH) (n : Nat) (V : Nat → Nat) : Prop := n ≤ 500 ∧ h 5 1 = nI n ∧ ∀ j, j < n → V j < 256 ∧ h 6 j = sb (V j)
theorem x_skip {h : AH} {n : Nat} {V : Nat → Nat} (hT : XT h n V) : ∀ (k fuel p e q : Nat), p + k = n → k < fuel → f_X6_step_8 5 fuel (XH h p e q) = f_X6_step_47 5 (XH h (skp V k p) e q) := by
  obtain ⟨hn, h1, h6⟩ := hT
  intro k
  induction k with
  | zero =>
    intro fuel p e q hp hf
    obtain ⟨f, rfl⟩ : ∃ f, fuel = f + 1 := ⟨fuel - 1, by omega⟩
    rw [f_X6_step_8, XH_r1, XH_r3, h1, if_pos (nI_le (by omega) (by omega))]
    rfl
  | succ k ih =>
    intro fuel p e q hp hf
    obtain ⟨f, rfl⟩ : ∃ f, fuel = f + 1 := ⟨fuel - 1, by omega⟩
    have hb := h6 p (by omega)
    rw [f_X6_step_8, XH_r1, XH_r3, h1, if_neg (nI_ge (by omega) (by omega)), lt_s2, ck_nI _ (by omega) (by decide), cl_nI (by omega), XH_c _ _ _ _ (show 5 + 1 ≠ 5 by decide), show h (5 + 1) p = sb (V p) from hb.2, x_isBlank hb.1, bd_s]
    unfold skp
    by_cases c : bl (V p) = 1
    · rw [c, if_n1, if_pos rfl, XH_r3, nI_1, XH_3, lt_s2]
      exact ih f (p + 1) e q (by omega) (by omega)
    · have c0 : bl (V p) = 0 := (bl_01 _).resolve_right c
      rw [c0, if_n0, if_neg (by decide)]
theorem x_170 (h : AH) (s e k : Nat) (hk : k ≤ 4) (hse : s ≤ e) (he : e ≤ 501) : f_X6_step_170 5 (XH h s e k) = some ((), XH h s e (if k = 2 ∧ 3 < e - s then 0 else k)) := by
  unfold f_X6_step_170
  rw [XH_r2, XH_r3, XH_r4, pk_sub hse]
  by_cases c : k = 2
  · rw [c, if_pos (show nI 2 = 2 from rfl)]
    by_cases c2 : 3 < e - s
    · rw [if_neg (show ¬ nI (e - s) ≤ 3 from nI_ge (a := 3) c2 (by omega)), if_pos ⟨rfl, c2⟩, show (0 : Int32) = nI 0 from rfl, XH_2, lt_s2]
    · rw [if_pos (show nI (e - s) ≤ 3 from nI_le (b := 3) (by omega) (by decide)), if_neg (fun z => c2 z.2)]
  · rw [if_neg (show ¬ nI k = 2 from fun z => c ((nI_eq (by omega) (by decide)).mp z)), if_neg (fun z => c z.1)]
theorem x_run {h : AH} {n : Nat} {V : Nat → Nat} (hT : XT h n V) {q : Nat} (hq : q = 1 ∨ q = 2) (s : Nat) : ∀ (k fuel p : Nat), s ≤ p → p + k = n → k < fuel → f_X6_step_111 5 fuel (XH h s p q) = f_X6_step_170 5 (XH h s (rnp V q k p) q) := by
  obtain ⟨hn, h1, h6⟩ := hT
  intro k
  induction k with
  | zero =>
    intro fuel p hsp hp hf
    obtain ⟨f, rfl⟩ : ∃ f, fuel = f + 1 := ⟨fuel - 1, by omega⟩
    rw [f_X6_step_111, XH_r1, XH_r4, h1, if_pos (nI_le (by omega) (by omega))]
    rfl
  | succ k ih =>
    intro fuel p hsp hp hf
    obtain ⟨f, rfl⟩ : ∃ f, fuel = f + 1 := ⟨fuel - 1, by omega⟩
    have hb := h6 p (by omega)
    have hs3 := so_le (V p)
    have e138 : f_X6_step_138 5 (f_X6_step_111 5 f) (XH h s p q) = f_X6_step_170 5 (XH h s (rnp V q (k + 1) p) q) := by
      unfold f_X6_step_138
      rw [XH_r4, lt_s2, ck_nI _ (by omega) (by decide), cl_nI (by omega), XH_c _ _ _ _ (show 5 + 1 ≠ 5 by decide), show h (5 + 1) p = sb (V p) from hb.2, x_sortOf hb.1, bd_s, XH_r2]
      unfold rnp
      by_cases c : so (V p) = q
      · rw [if_pos (by rw [c]), if_pos c, XH_r4, nI_1, XH_4, lt_s2]
        exact ih f (p + 1) (by omega) (by omega) (by omega)
      · rw [if_neg (fun z => c ((nI_eq (by omega) (by omega)).mp z)), if_neg c]
    rw [f_X6_step_111, XH_r1, XH_r4, h1, if_neg (nI_ge (by omega) (by omega)), XH_r2]
    rcases hq with rfl | rfl
    · rw [if_pos (show nI 1 = 1 from rfl)]; exact e138
    · rw [if_neg (show ¬ nI 2 = 1 by decide), if_pos (show nI 2 = 2 from rfl)]; exact e138
theorem x_111 {h : AH} {n : Nat} (hn : h 5 1 = nI n) {q : Nat} (hq : q ≠ 1 ∧ q ≠ 2 ∧ q ≤ 4) (s e : Nat) : f_X6_step_111 5 fu (XH h s e q) = f_X6_step_170 5 (XH h s e q) := by
  obtain ⟨f, hf⟩ := fu_s 1 (by decide)
  rw [hf, f_X6_step_111, XH_r2, if_neg (show ¬ nI q = 1 from fun z => hq.1 ((nI_eq (by omega) (by decide)).mp z)), if_neg (show ¬ nI q = 2 from fun z => hq.2.1 ((nI_eq (by omega) (by decide)).mp z)), ite_self]
theorem x_step {h : AH} {n : Nat} {V : Nat → Nat} (hT : XT h n V) (s e k : Nat) (he : e ≤ n) : f_X6_step 5 (XH h s e k) = some ((), XH h (tks V n e) (tke V n e) (tkk V n e)) := by
  have hT' := hT
  obtain ⟨hn, h1, h6⟩ := hT
  have hf := tk_f V he
  have hsk := skp_in V (n - e) e
  unfold f_X6_step
  rw [XH_r4, XH_3, lt_s2, x_skip hT' (n - e) fu e e k (by omega) (fu_ge _ (by omega))]
  rw [show skp V (n - e) e = tks V n e from rfl] at hsk ⊢
  unfold f_X6_step_47
  rw [XH_r3, XH_4, lt_s2, XH_r1, XH_r3, h1]
  by_cases c : n ≤ tks V n e
  · have e1 : tke V n e = tks V n e := by unfold tke; rw [if_pos c]
    have e2 : tkk V n e = 4 := by unfold tkk; rw [if_pos c]
    rw [if_pos (nI_le c (by omega)), e1, e2]
    unfold f_X6_step_83
    rw [show (4 : Int32) = nI 4 from rfl, XH_2, lt_s2, XH_r2, if_neg (show ¬ nI 4 = 3 by decide), if_neg (show ¬ nI 4 = 0 by decide), x_111 h1 (by decide), x_170 _ _ _ _ (by decide) (Nat.le_refl _) (by omega), if_neg (by omega)]
  · have h3 := so_le (V (tks V n e))
    have hb := h6 (tks V n e) (by omega)
    rw [if_neg (nI_ge (by omega) (by omega)), lt_s2, ck_nI _ (by omega) (by decide), cl_nI (by omega), XH_c _ _ _ _ (show 5 + 1 ≠ 5 by decide), show h (5 + 1) (tks V n e) = sb (V (tks V n e)) from hb.2, x_sortOf hb.1, bd_s]
    unfold f_X6_step_83
    rw [XH_2, lt_s2, XH_r2, XH_r4, nI_1, XH_4, lt_s2]
    by_cases c2 : so (V (tks V n e)) = 3 ∨ so (V (tks V n e)) = 0
    · have e1 : tke V n e = tks V n e + 1 := by unfold tke; rw [if_neg c, if_pos c2]
      have e2 : tkk V n e = so (V (tks V n e)) := by unfold tkk; rw [if_neg c, if_neg (by omega)]
      rw [e1, e2]
      have ex : f_X6_step_111 5 fu (XH h (tks V n e) (tks V n e + 1) (so (V (tks V n e)))) = some ((), XH h (tks V n e) (tks V n e + 1) (so (V (tks V n e)))) := by
        rw [x_111 h1 (by omega), x_170 _ _ _ _ (by omega) (by omega) (by omega), if_neg (by omega)]
      rcases c2 with z | z
      · rw [if_pos (show nI (so (V (tks V n e))) = 3 from by rw [z]; rfl)]; exact ex
      · rw [if_neg (show ¬ nI (so (V (tks V n e))) = 3 from by rw [z]; decide), if_pos (show nI (so (V (tks V n e))) = 0 from by rw [z]; rfl)]; exact ex
    · have e1 : tke V n e = rnp V (so (V (tks V n e))) (n - tks V n e) (tks V n e) := by unfold tke; rw [if_neg c, if_neg c2]
      rw [if_neg (show ¬ nI (so (V (tks V n e))) = 3 from fun z => c2 (Or.inl ((nI_eq (by omega) (by decide)).mp z))), if_neg (show ¬ nI (so (V (tks V n e))) = 0 from fun z => c2 (Or.inr ((nI_eq (by omega) (by decide)).mp z))), x_run hT' (by omega) _ (n - tks V n e) fu _ (Nat.le_refl _) (by omega) (fu_ge _ (by omega)), ← e1, x_170 _ _ _ _ (by omega) hf.1 (by have := hf.2.1; omega)]
      unfold tkk
      rw [if_neg c]
-- the model's token
def mk5 (k : Nat) : Nat := if k = 0 then 0 else if k = 4 then 1 else k + 1
def MH (h : AH) (s c k t : Nat) : AH := hput h 0 (fun j => if j = 16 then nI s else if j = 14 then nI c else if j = 15 then nI k else if j = 17 then nI t else h 0 j)
theorem MH_16 (h : AH) (s c k t s2 : Nat) : hset (MH h s c k t) 0 16 (nI s2) = MH h s2 c k t := by
  unfold MH
  rw [hset_hput]
  congr 1
  funext j
  by_cases c : j = 16
  · subst c; rw [pk_us]; rfl
  · rw [pk_un c]; simp only [if_neg c]
theorem MH_14 (h : AH) (s c k t s2 : Nat) : hset (MH h s c k t) 0 14 (nI s2) = MH h s s2 k t := by
  unfold MH
  rw [hset_hput]
  congr 1
  funext j
  by_cases c : j = 14
  · subst c; rw [pk_us]; rfl
  · rw [pk_un c]; simp only [if_neg c]
theorem MH_15 (h : AH) (s c k t s2 : Nat) : hset (MH h s c k t) 0 15 (nI s2) = MH h s c s2 t := by
  unfold MH
  rw [hset_hput]
  congr 1
  funext j
  by_cases c : j = 15
  · subst c; rw [pk_us]; rfl
  · rw [pk_un c]; simp only [if_neg c]
theorem MH_17 (h : AH) (s c k t s2 : Nat) : hset (MH h s c k t) 0 17 (nI s2) = MH h s c k s2 := by
  unfold MH
  rw [hset_hput]
  congr 1
  funext j
  by_cases c : j = 17
  · subst c; rw [pk_us]; rfl
  · rw [pk_un c]; simp only [if_neg c]
theorem MH_r16 (h : AH) (s c k t : Nat) : MH h s c k t 0 16 = nI s := by unfold MH; rw [hput_self]; rfl
theorem MH_r14 (h : AH) (s c k t : Nat) : MH h s c k t 0 14 = nI c := by unfold MH; rw [hput_self]; rfl
theorem MH_r15 (h : AH) (s c k t : Nat) : MH h s c k t 0 15 = nI k := by unfold MH; rw [hput_self]; rfl
theorem MH_r17 (h : AH) (s c k t : Nat) : MH h s c k t 0 17 = nI t := by unfold MH; rw [hput_self]; rfl
theorem MH_c (h : AH) (s c k t : Nat) {a : Nat} (ha : a ≠ 0) : MH h s c k t a = h a := by unfold MH; rw [hput_ne _ _ ha]
theorem MH_r (h : AH) (s c k t : Nat) {j : Nat} (hj : j ≠ 14 ∧ j ≠ 15 ∧ j ≠ 16 ∧ j ≠ 17) : MH h s c k t 0 j = h 0 j := by
  unfold MH
  rw [hput_self, if_neg hj.2.2.1, if_neg hj.1, if_neg hj.2.1, if_neg hj.2.2.2]
theorem MH_id {h : AH} {s c k t : Nat} (h16 : h 0 16 = nI s) (h14 : h 0 14 = nI c) (h15 : h 0 15 = nI k) (h17 : h 0 17 = nI t) : h = MH h s c k t := by
  unfold MH
  have : (fun j => if j = 16 then nI s else if j = 14 then nI c else if j = 15 then nI k else if j = 17 then nI t else h 0 j) = h 0 := funext fun j => by
    by_cases c3 : j = 16
    · rw [if_pos c3, c3, h16]
    · rw [if_neg c3]
      by_cases c4 : j = 14
      · rw [if_pos c4, c4, h14]
      · rw [if_neg c4]
        by_cases c2 : j = 15
        · rw [if_pos c2, c2, h15]
        · rw [if_neg c2]
          by_cases c5 : j = 17
          · rw [if_pos c5, c5, h17]
          · rw [if_neg c5]
  rw [this, hput_id]
def MT (h : AH) (n : Nat) (V : Nat → Nat) : Prop := n ≤ 500 ∧ h 0 13 = nI n ∧ ∀ j, j < n → V j < 256 ∧ h 7 j = nI (V j)
theorem m_byteIn {h : AH} {n : Nat} {V : Nat → Nat} (hT : MT h n V) {p : Nat} (hp : p < n) (s c k t : Nat) : f_X8_byteAt 0 (nI p) (MH h s c k t) = some (nI (V p), MH h s c k t) := by
  unfold f_X8_byteAt
  rw [MH_r _ _ _ _ _ (by decide), hT.2.1, if_neg (nI_ge hp (by have := hT.1; omega)), ck_nI _ (by have := hT.1; omega) (by decide), cl_nI (by have := hT.1; omega), MH_c _ _ _ _ _ (by decide), show h (0 + 7) p = _ from (hT.2.2 p hp).2]
theorem m_byteOut {h : AH} {n : Nat} {V : Nat → Nat} (hT : MT h n V) {p : Nat} (hp : n ≤ p) (hp2 : p < 2 ^ 31) (s c k t : Nat) : f_X8_byteAt 0 (nI p) (MH h s c k t) = some (-1000000, MH h s c k t) := by
  unfold f_X8_byteAt
  rw [MH_r _ _ _ _ _ (by decide), hT.2.1, if_pos (nI_le hp hp2)]
theorem m_letters {h : AH} {n : Nat} {V : Nat → Nat} (hT : MT h n V) (s k0 t : Nat) : ∀ (k fuel p : Nat), p + k = n → k < fuel → f_X8_next_77 0 fuel (MH h s p k0 t) = some ((), MH h s (rnp V 1 k p) 2 (rnp V 1 k p)) := by
  have hn := hT.1
  intro k
  induction k with
  | zero =>
    intro fuel p hp hf
    obtain ⟨f, rfl⟩ : ∃ f, fuel = f + 1 := ⟨fuel - 1, by omega⟩
    rw [f_X8_next_77, MH_r14, m_byteOut hT (by omega) (by omega), bd_s]
    unfold f_X8_isLetter
    rw [if_pos (by decide), bd_s, if_pos rfl, show (2 : Int32) = nI 2 from rfl, MH_15, lt_s2, MH_r14, MH_17, lt_s2]
    rfl
  | succ k ih =>
    intro fuel p hp hf
    obtain ⟨f, rfl⟩ : ∃ f, fuel = f + 1 := ⟨fuel - 1, by omega⟩
    rw [f_X8_next_77, MH_r14, m_byteIn hT (by omega), bd_s, m_isLetter (hT.2.2 p (by omega)).1, bd_s]
    unfold rnp
    by_cases c : so (V p) = 1
    · rw [if_pos c, if_n1, if_pos c, MH_r14, nI_1, MH_14, lt_s2]
      exact ih f (p + 1) (by omega) (by omega)
    · rw [if_neg c, if_n0, if_neg c, show (2 : Int32) = nI 2 from rfl, MH_15, lt_s2, MH_r14, MH_17, lt_s2]
theorem m_figs {h : AH} {n : Nat} {V : Nat → Nat} (hT : MT h n V) (s k0 t : Nat) : ∀ (k fuel p : Nat), s ≤ p → p + k = n → k < fuel → f_X8_next_119 0 fuel (MH h s p k0 t) = some ((), MH h s (rnp V 2 k p) (if 3 < rnp V 2 k p - s then 0 else 3) (rnp V 2 k p)) := by
  have hn := hT.1
  have fin : ∀ p, s ≤ p → p ≤ 501 → (if (MH h s p k0 t 0 14) - (MH h s p k0 t 0 16) ≤ 3 then (lt (hset (MH h s p k0 t) 0 15 3) (fun h_5 => lt (hset h_5 0 17 (h_5 0 14)) (fun h_6 => some ((), h_6)))) else (lt (hset (MH h s p k0 t) 0 15 0) (fun h_7 => lt (hset h_7 0 17 (h_7 0 14)) (fun h_8 => some ((), h_8))))) = some ((), MH h s p (if 3 < p - s then 0 else 3) p) := by
    intro p hp hp2
    rw [MH_r14, MH_r16, pk_sub hp]
    by_cases c : 3 < p - s
    · rw [if_neg (show ¬ nI (p - s) ≤ 3 from nI_ge (a := 3) c (by omega)), if_pos c, show (0 : Int32) = nI 0 from rfl, MH_15, lt_s2, MH_r14, MH_17, lt_s2]
    · rw [if_pos (show nI (p - s) ≤ 3 from nI_le (b := 3) (by omega) (by decide)), if_neg c, show (3 : Int32) = nI 3 from rfl, MH_15, lt_s2, MH_r14, MH_17, lt_s2]
  intro k
  induction k with
  | zero =>
    intro fuel p hsp hp hf
    obtain ⟨f, rfl⟩ : ∃ f, fuel = f + 1 := ⟨fuel - 1, by omega⟩
    rw [f_X8_next_119, show MH h s p k0 t 0 14 = nI p from MH_r14 _ _ _ _ _, m_byteOut hT (by omega) (by omega), bd_s]
    unfold f_X8_isFigure
    rw [if_pos (by decide), bd_s, if_pos rfl]
    exact fin p hsp (by omega)
  | succ k ih =>
    intro fuel p hsp hp hf
    obtain ⟨f, rfl⟩ : ∃ f, fuel = f + 1 := ⟨fuel - 1, by omega⟩
    rw [f_X8_next_119, show MH h s p k0 t 0 14 = nI p from MH_r14 _ _ _ _ _, m_byteIn hT (by omega), bd_s, m_isFigure (hT.2.2 p (by omega)).1, bd_s]
    unfold rnp
    by_cases c : so (V p) = 2
    · rw [if_pos c, if_n1, if_pos c, MH_r14, nI_1, MH_14, lt_s2]
      exact ih f (p + 1) (by omega) (by omega) (by omega)
    · rw [if_neg c, if_n0, if_neg c]
      exact fin p hsp (by omega)
theorem nb_32 : ∀ v, v < 256 → bl v = 0 → ¬ nI v = 32 ∧ ¬ nI v = 10 ∧ ¬ nI v = -1000000 := by
  have : ∀ v, v < 256 → decide (bl v = 0) = true → decide (¬ nI v = 32 ∧ ¬ nI v = 10 ∧ ¬ nI v = -1000000) = true := by decide +kernel
  exact fun v hv h => of_decide_eq_true (this v hv (decide_eq_true h))
theorem so_59 : ∀ v, v < 256 → (nI v = 59) = (so v = 3) := by
  have : ∀ v, v < 256 → decide (nI v = 59) = decide (so v = 3) := by decide +kernel
  intro v hv
  have := this v hv
  exact propext ⟨fun z => of_decide_eq_true (by rw [← this]; exact decide_eq_true z), fun z => of_decide_eq_true (by rw [this]; exact decide_eq_true z)⟩
theorem m_next0 {h : AH} {n : Nat} {V : Nat → Nat} (hT : MT h n V) (e0 : Nat) (s k0 t : Nat) : ∀ (k fuel p : Nat), p + k = n → k < fuel → tks V n e0 = skp V k p → f_X8_next_0 0 fuel (MH h s p k0 t) = some ((), MH h (tks V n e0) (tke V n e0) (mk5 (tkk V n e0)) (tke V n e0)) := by
  have hn := hT.1
  intro k
  induction k with
  | zero =>
    intro fuel p hp hf hs
    obtain ⟨f, rfl⟩ : ∃ f, fuel = f + 1 := ⟨fuel - 1, by omega⟩
    have hs : tks V n e0 = p := hs
    have e1 : tke V n e0 = p := by unfold tke; rw [if_pos (by omega), hs]
    have e2 : tkk V n e0 = 4 := by unfold tkk; rw [if_pos (by omega)]
    rw [f_X8_next_0, MH_r14, m_byteOut hT (by omega) (by omega), bd_s, if_neg (show ¬ (-1000000 : Int32) = 32 by decide), MH_r14, m_byteOut hT (by omega) (by omega), bd_s, if_neg (show ¬ (-1000000 : Int32) = 10 by decide), MH_r14, MH_16, lt_s2, MH_r14, m_byteOut hT (by omega) (by omega), bd_s, if_pos rfl, show (1 : Int32) = nI 1 from rfl, MH_15, lt_s2, MH_r14, MH_17, lt_s2, hs, e1, e2]
    rfl
  | succ k ih =>
    intro fuel p hp hf hs
    obtain ⟨f, rfl⟩ : ∃ f, fuel = f + 1 := ⟨fuel - 1, by omega⟩
    have hb := hT.2.2 p (by omega)
    by_cases c : bl (V p) = 1
    · have hs2 : tks V n e0 = skp V k (p + 1) := by rw [hs, skp_s, if_pos c]
      have ih' := ih f (p + 1) (by omega) (by omega) hs2
      rw [f_X8_next_0, MH_r14, m_byteIn hT (by omega), bd_s]
      by_cases c32 : V p = 32
      · rw [if_pos (show nI (V p) = 32 from by rw [c32]; rfl), MH_r14, nI_1, MH_14, lt_s2]
        exact ih'
      · have c10 : V p = 10 := by
          unfold bl at c
          by_cases z : V p = 32 ∨ V p = 10
          · omega
          · rw [if_neg z] at c; exact absurd c (by decide)
        rw [if_neg (show ¬ nI (V p) = 32 from by rw [c10]; decide), MH_r14, m_byteIn hT (by omega), bd_s, if_pos (show nI (V p) = 10 from by rw [c10]; rfl), MH_r14, nI_1, MH_14, lt_s2]
        exact ih'
    · have hs2 : tks V n e0 = p := by rw [hs, skp_s, if_neg c]
      have c0 : bl (V p) = 0 := (bl_01 _).resolve_right c
      have nb := nb_32 (V p) hb.1 c0
      have h3 := so_le (V p)
      rw [f_X8_next_0, MH_r14, m_byteIn hT (by omega), bd_s, if_neg nb.1, MH_r14, m_byteIn hT (by omega), bd_s, if_neg nb.2.1, MH_r14, MH_16, lt_s2, MH_r14, m_byteIn hT (by omega), bd_s, if_neg nb.2.2, m_isLetter hb.1, bd_s]
      by_cases c1 : so (V p) = 1
      · have e1 : tke V n e0 = rnp V 1 (n - p) p := by unfold tke; rw [hs2, if_neg (by omega), if_neg (by omega), c1]
        have e2 : tkk V n e0 = 1 := by unfold tkk; rw [hs2, if_neg (by omega), if_neg (by omega), c1]
        rw [if_pos c1, if_n1, m_letters hT p k0 t (n - p) fu p (by omega) (fu_ge _ (by omega)), hs2, e1, e2]
        rfl
      · rw [if_neg c1, if_n0, m_isFigure hb.1, bd_s]
        by_cases c2 : so (V p) = 2
        · have e1 : tke V n e0 = rnp V 2 (n - p) p := by unfold tke; rw [hs2, if_neg (by omega), if_neg (by omega), c2]
          have e2 : mk5 (tkk V n e0) = if 3 < rnp V 2 (n - p) p - p then 0 else 3 := by
            unfold tkk
            rw [e1, hs2, if_neg (by omega)]
            by_cases z : 3 < rnp V 2 (n - p) p - p
            · rw [if_pos ⟨c2, z⟩, if_pos z]; rfl
            · rw [if_neg (fun q => z q.2), if_neg z, c2]; rfl
          rw [if_pos c2, if_n1, m_figs hT p k0 t (n - p) fu p (Nat.le_refl _) (by omega) (fu_ge _ (by omega)), hs2, e1, e2]
        · have e1 : tke V n e0 = p + 1 := by unfold tke; rw [hs2, if_neg (by omega), if_pos (by omega)]
          have e2 : tkk V n e0 = so (V p) := by unfold tkk; rw [hs2, if_neg (by omega), if_neg (by omega)]
          rw [if_neg c2, if_n0, MH_r14, nI_1, MH_14, lt_s2, hs2, e1, e2]
          simp only [so_59 _ hb.1]
          by_cases c3 : so (V p) = 3
          · rw [if_pos c3, c3, show (4 : Int32) = nI 4 from rfl, MH_15, lt_s2, MH_r14, MH_17, lt_s2]
            rfl
          · rw [if_neg c3, show so (V p) = 0 by omega, show (0 : Int32) = nI 0 from rfl, MH_15, lt_s2, MH_r14, MH_17, lt_s2]
            rfl
theorem m_next {h : AH} {n : Nat} {V : Nat → Nat} (hT : MT h n V) (s e k t : Nat) (he : e ≤ n) : f_X8_next 0 (MH h s e k t) = some ((), MH h (tks V n e) (tke V n e) (mk5 (tkk V n e)) (tke V n e)) := by
  have hn := hT.1
  unfold f_X8_next
  exact m_next0 hT e s k t (n - e) fu e (by omega) (fu_ge _ (by omega)) rfl
