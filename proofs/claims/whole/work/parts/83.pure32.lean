/-! ===== rows of charters: swaps, order, ranks ===== -/
def sw (c : Nat → Nat) (i j : Nat) : Nat → Nat := fun x => if x = i then c j else if x = j then c i else c x
theorem sw_i (c : Nat → Nat) (i j : Nat) : sw c i j i = c j := if_pos rfl
theorem sw_j (c : Nat → Nat) (i j : Nat) : sw c i j j = c i := by
  unfold sw
  by_cases e : j = i
  · rw [if_pos e, e]
  · rw [if_neg e, if_pos rfl]
theorem sw_o (c : Nat → Nat) {i j x : Nat} (h1 : x ≠ i) (h2 : x ≠ j) : sw c i j x = c x := by
  unfold sw
  rw [if_neg h1, if_neg h2]
theorem sw_sw (c : Nat → Nat) (i j : Nat) : sw (sw c i j) i j = c := by
  funext x
  by_cases e : x = i
  · rw [e, sw_i, sw_j]
  · by_cases e2 : x = j
    · rw [e2, sw_j, sw_i]
    · rw [sw_o _ e e2, sw_o _ e e2]
/-- how many from lo on are below x -/
def gc (c : Nat → Nat) (lo n x : Nat) : Nat := cnt (fun j => decide (lo ≤ j) && decide (c j < x)) n
theorem gc_sw1 (c : Nat → Nat) {lo n i j : Nat} (x : Nat) (hi : lo ≤ i ∧ i < n) (hj : lo ≤ j ∧ j < n) : gc (sw c i j) lo n x ≤ gc c lo n x := by
  unfold gc
  refine cnt_rel n _ _ n (fun a b => b = if a = i then j else if a = j then i else a) (fun a ha h => ?_) (fun a k b ha hk _ _ r1 r2 => ?_)
  · have h' : lo ≤ a ∧ sw c i j a < x := by simpa using h
    by_cases e : a = i
    · rw [e, sw_i] at h'
      exact ⟨j, hj.2, by simp [hj.1, h'.2], by rw [if_pos e]⟩
    · by_cases e2 : a = j
      · rw [e2, sw_j] at h'
        exact ⟨i, hi.2, by simp [hi.1, h'.2], by rw [if_neg e, if_pos e2]⟩
      · rw [sw_o _ e e2] at h'
        exact ⟨a, ha, by simp [h'.1, h'.2], by rw [if_neg e, if_neg e2]⟩
  · have r1' : b = if a = i then j else if a = j then i else a := r1
    have r2' : b = if k = i then j else if k = j then i else k := r2
    rw [r1'] at r2'
    split at r2' <;> split at r2' <;> (try split at r2') <;> (try split at r2') <;> omega
theorem gc_sw (c : Nat → Nat) {lo n i j : Nat} (x : Nat) (hi : lo ≤ i ∧ i < n) (hj : lo ≤ j ∧ j < n) : gc (sw c i j) lo n x = gc c lo n x := by
  have h1 := gc_sw1 c x hi hj
  have h2 := gc_sw1 (sw c i j) x hi hj
  rw [sw_sw] at h2
  omega
theorem gc_head (c : Nat → Nat) {lo n x : Nat} (h : lo < n) : gc c lo n x = gc c (lo + 1) n x + if c lo < x then 1 else 0 := by
  unfold gc
  by_cases e : c lo < x
  · rw [if_pos e]
    refine cnt_add h (by have : ¬ lo + 1 ≤ lo := by omega
                         simp [this]) (fun i hi => ?_)
    by_cases q : i = lo
    · subst q; simp [e]
    · have : (lo ≤ i) = (lo + 1 ≤ i) := propext ⟨fun _ => by omega, fun _ => by omega⟩
      simp [q, this]
  · rw [if_neg e, Nat.add_zero]
    refine cnt_congr (fun i hi => ?_)
    by_cases q : i = lo
    · subst q; simp [e]
    · have : (lo ≤ i) = (lo + 1 ≤ i) := propext ⟨fun _ => by omega, fun _ => by omega⟩
      simp [this]
theorem gc_mono (c : Nat → Nat) {lo n x y : Nat} (h : x ≤ y) : gc c lo n x ≤ gc c lo n y := by
  refine cnt_mono (fun i hi q => ?_)
  have q' : lo ≤ i ∧ c i < x := by simpa using q
  have : c i < y := by omega
  simp [q'.1, this]
theorem gc_len (c : Nat → Nat) {lo n x : Nat} (h : lo ≤ n) : gc c lo n x ≤ n - lo := by
  have : ∀ k lo, lo + k = n → gc c lo n x ≤ k := by
    intro k
    induction k with
    | zero =>
      intro lo hk
      have e : gc c lo n x = cnt (fun _ => false) n := by
        refine cnt_congr (fun i hi => ?_)
        have : ¬ lo ≤ i := by omega
        simp [this]
      have z : ∀ m, cnt (fun _ => false) m = 0 := by
        intro m
        induction m with
        | zero => rfl
        | succ m ih => rw [cnt_s, ih]; rfl
      rw [e, z]
      exact Nat.le_refl _
    | succ k ih =>
      intro lo hk
      rw [gc_head c (by omega)]
      have := ih (lo + 1) (by omega)
      split <;> omega
  exact this (n - lo) lo (by omega)
def fct : Nat → Nat
  | 0 => 1
  | k + 1 => (k + 1) * fct k
/-- the rank of the last k of a row of n -/
def rs (c : Nat → Nat) (n : Nat) : Nat → Nat
  | 0 => 0
  | k + 1 => gc c (n - k) n (c (n - k - 1)) * fct k + rs c n k
theorem rs_lt (c : Nat → Nat) (n : Nat) : ∀ k, k ≤ n → rs c n k + 1 ≤ fct k := by
  intro k
  induction k with
  | zero => intro _; exact Nat.le_refl _
  | succ k ih =>
    intro hk
    have h1 := ih (by omega)
    have h2 := gc_len c (lo := n - k) (n := n) (x := c (n - k - 1)) (by omega)
    rw [show n - (n - k) = k by omega] at h2
    show gc c (n - k) n (c (n - k - 1)) * fct k + rs c n k + 1 ≤ (k + 1) * fct k
    have h3 := Nat.mul_le_mul_right (fct k) h2
    rw [Nat.add_mul, Nat.one_mul]
    omega
theorem rs_piv {c c' : Nat → Nat} {n i : Nat} (hi : i < n) (h2 : ∀ lo x, lo ≤ i → gc c' lo n x = gc c lo n x) (h3 : c i < c' i) : rs c n (n - i) + 1 ≤ rs c' n (n - i) := by
  obtain ⟨k, hk⟩ : ∃ k, n - i = k + 1 := ⟨n - i - 1, by omega⟩
  rw [hk]
  show gc c (n - k) n (c (n - k - 1)) * fct k + rs c n k + 1 ≤ gc c' (n - k) n (c' (n - k - 1)) * fct k + rs c' n k
  rw [show n - k - 1 = i by omega, show n - k = i + 1 by omega]
  have a1 := gc_head c (lo := i) (n := n) (x := c' i) hi
  have a2 := gc_head c' (lo := i) (n := n) (x := c' i) hi
  have a3 := h2 i (c' i) (Nat.le_refl _)
  rw [if_pos h3] at a1
  rw [if_neg (Nat.lt_irrefl _)] at a2
  have a4 := gc_mono c (lo := i + 1) (n := n) (show c i ≤ c' i by omega)
  have a5 := rs_lt c n k (by omega)
  have a6 : gc c (i + 1) n (c i) + 1 ≤ gc c' (i + 1) n (c' i) := by omega
  have a7 := Nat.mul_le_mul_right (fct k) a6
  rw [Nat.add_mul, Nat.one_mul] at a7
  omega
theorem rs_next {c c' : Nat → Nat} {n i : Nat} (hi : i < n) (h1 : ∀ x, x < i → c' x = c x) (h2 : ∀ lo x, lo ≤ i → gc c' lo n x = gc c lo n x) (h3 : c i < c' i) : rs c n n + 1 ≤ rs c' n n := by
  have key : ∀ m, n - i + m ≤ n → rs c n (n - i + m) + 1 ≤ rs c' n (n - i + m) := by
    intro m
    induction m with
    | zero => intro _; exact rs_piv hi h2 h3
    | succ m ih =>
      intro hm
      have h := ih (by omega)
      show gc c (n - (n - i + m)) n (c (n - (n - i + m) - 1)) * fct (n - i + m) + rs c n (n - i + m) + 1 ≤ gc c' (n - (n - i + m)) n (c' (n - (n - i + m) - 1)) * fct (n - i + m) + rs c' n (n - i + m)
      rw [h1 (n - (n - i + m) - 1) (by omega), h2 (n - (n - i + m)) _ (by omega)]
      omega
  have := key i (by omega)
  rwa [show n - i + i = n by omega] at this
theorem rs_720 (c : Nat → Nat) {n : Nat} (hn : n ≤ 6) : rs c n n < 720 := by
  have h := rs_lt c n n (Nat.le_refl _)
  have : fct n ≤ 720 := by
    have : ∀ m, m ≤ 6 → fct m ≤ 720 := by decide +kernel
    exact this n hn
  omega
/-- the row that comes next -/
def pvf (c : Nat → Nat) : Nat → Option Nat
  | 0 => none
  | k + 1 => if c k < c (k + 1) then some k else pvf c k
def jf (c : Nat → Nat) (v : Nat) : Nat → Nat
  | 0 => 0
  | k + 1 => if v < c k then k else jf c v k
def rvf : Nat → (Nat → Nat) → Nat → Nat → (Nat → Nat)
  | 0, c, _, _ => c
  | m + 1, c, l, h => if l < h then rvf m (sw c l h) (l + 1) (h - 1) else c
def nxt (n : Nat) (c : Nat → Nat) : Option (Nat → Nat) := match pvf c (n - 1) with
  | none => none
  | some i => some (rvf 6 (sw c i (jf c (c i) n)) (i + 1) (n - 1))
theorem pvf_s {c : Nat → Nat} {i : Nat} : ∀ {k}, pvf c k = some i → i < k ∧ c i < c (i + 1) := by
  intro k
  induction k with
  | zero => intro h; exact absurd h (by simp [pvf])
  | succ k ih =>
    intro h
    unfold pvf at h
    by_cases e : c k < c (k + 1)
    · rw [if_pos e] at h
      have : k = i := Option.some.inj h
      subst this
      exact ⟨by omega, e⟩
    · rw [if_neg e] at h
      have := ih h
      exact ⟨by omega, this.2⟩
theorem jf_s {c : Nat → Nat} {v m : Nat} (hm : v < c m) : ∀ {k}, m < k → m ≤ jf c v k ∧ jf c v k < k ∧ v < c (jf c v k) := by
  intro k
  induction k with
  | zero => intro h; omega
  | succ k ih =>
    intro h
    unfold jf
    by_cases e : v < c k
    · rw [if_pos e]; exact ⟨by omega, by omega, e⟩
    · rw [if_neg e]
      have : m ≠ k := fun q => e (by rw [← q]; exact hm)
      have := ih (by omega)
      exact ⟨this.1, by omega, this.2.2⟩
theorem rvf_o : ∀ (m : Nat) (c : Nat → Nat) (l h x : Nat), x < l → rvf m c l h x = c x := by
  intro m
  induction m with
  | zero => intro c l h x hx; rfl
  | succ m ih =>
    intro c l h x hx
    unfold rvf
    split
    · rw [ih _ _ _ _ (by omega), sw_o _ (by omega) (by omega)]
    · rfl
theorem rvf_g {n : Nat} : ∀ (m : Nat) (c : Nat → Nat) (l h lo x : Nat), lo ≤ l → h < n → gc (rvf m c l h) lo n x = gc c lo n x := by
  intro m
  induction m with
  | zero => intro c l h lo x h1 h2; rfl
  | succ m ih =>
    intro c l h lo x h1 h2
    unfold rvf
    split
    · rw [ih _ _ _ _ _ (by omega) (by omega), gc_sw _ _ (by omega) (by omega)]
    · rfl
theorem nxt_s {n : Nat} {c c' : Nat → Nat} (h : nxt n c = some c') : (∀ x, gc c' 0 n x = gc c 0 n x) ∧ rs c n n + 1 ≤ rs c' n n := by
  unfold nxt at h
  cases hp : pvf c (n - 1) with
  | none => rw [hp] at h; exact absurd h (by simp)
  | some i =>
    rw [hp] at h
    have e := Option.some.inj h
    obtain ⟨p1, p2⟩ := pvf_s hp
    obtain ⟨j1, j2, j3⟩ := jf_s (c := c) (v := c i) (m := i + 1) p2 (k := n) (by omega)
    have g : ∀ lo x, lo ≤ i → gc c' lo n x = gc c lo n x := fun lo x hl => by
      rw [← e, rvf_g _ _ _ _ _ _ (by omega) (by omega), gc_sw _ _ (by omega) (by omega)]
    refine ⟨fun x => g 0 x (Nat.zero_le _), rs_next (i := i) (by omega) (fun x hx => ?_) g ?_⟩
    · rw [← e, rvf_o _ _ _ _ _ (by omega), sw_o _ (by omega) (by omega)]
    · rw [← e, rvf_o _ _ _ _ _ (by omega), sw_i]; exact j3
/-! ===== sorted rows are alike ===== -/
def srd (c : Nat → Nat) (n : Nat) : Prop := ∀ a b, a < b → b < n → c a ≤ c b
theorem cnt_up (n : Nat) : ∀ k, k ≤ n → cnt (fun j => decide (j < k)) n = k := by
  induction n with
  | zero => intro k hk; have : k = 0 := by omega
            subst this; rfl
  | succ n ih =>
    intro k hk
    rw [cnt_s]
    by_cases e : k = n + 1
    · subst e
      rw [cnt_congr (T := fun _ => true) (fun i hi => by simp; omega), cnt_all, if_pos (by simp)]
    · rw [ih k (by omega), if_neg (by simp; omega)]
      omega
theorem srd_g {c : Nat → Nat} {n : Nat} (hs : srd c n) {a x : Nat} (ha : a < n) : c a < x ↔ a < gc c 0 n x := by
  constructor
  · intro h
    have h1 := cnt_up n (a + 1) (by omega)
    have h2 : cnt (fun j => decide (j < a + 1)) n ≤ gc c 0 n x := cnt_mono (fun i hi q => by
      have q' : i < a + 1 := by simpa using q
      have : c i ≤ c a := by
        by_cases e : i = a
        · rw [e]; exact Nat.le_refl _
        · exact hs i a (by omega) ha
      have : c i < x := by omega
      simp [this])
    omega
  · intro h
    apply Classical.byContradiction
    intro hn
    have h1 := cnt_up n a (by omega)
    have h2 : gc c 0 n x ≤ cnt (fun j => decide (j < a)) n := cnt_mono (fun i hi q => by
      have q' : c i < x := by simpa using q
      have : i < a := by
        apply Classical.byContradiction
        intro hia
        have : c a ≤ c i := by
          by_cases e : a = i
          · rw [e]; exact Nat.le_refl _
          · exact hs a i (by omega) hi
        omega
      simp [this])
    omega
theorem srd_u {c c' : Nat → Nat} {n : Nat} (h : srd c n) (h' : srd c' n) (g : ∀ x, gc c 0 n x = gc c' 0 n x) {a : Nat} (ha : a < n) : c a = c' a := by
  have k1 : ¬ c a < c' a := fun q => by
    have := (srd_g h ha).mp q
    rw [g] at this
    have := (srd_g h' ha).mpr this
    omega
  have k2 : ¬ c' a < c a := fun q => by
    have := (srd_g h' ha).mp q
    rw [← g] at this
    have := (srd_g h ha).mpr this
    omega
  omega
theorem gc_has {c c' : Nat → Nat} {n : Nat} (g : ∀ x, gc c 0 n x = gc c' 0 n x) {a : Nat} (ha : a < n) : ∃ b, b < n ∧ c' b = c a := by
  apply Classical.byContradiction
  intro hn
  have h1 : gc c' 0 n (c a + 1) = gc c' 0 n (c a) := cnt_congr (fun i hi => by
    have : c' i ≠ c a := fun e => hn ⟨i, hi, e⟩
    have e : (c' i < c a + 1) = (c' i < c a) := propext ⟨fun _ => by omega, fun _ => by omega⟩
    simp [e])
  have h2 : gc c 0 n (c a) + 1 ≤ gc c 0 n (c a + 1) := by
    have := cnt_del (B := fun j => decide (0 ≤ j) && decide (c j < c a + 1)) (j := a) (by simp) ha
    have h3 : gc c 0 n (c a) ≤ cnt (fun i => (decide (0 ≤ i) && decide (c i < c a + 1)) && decide (i ≠ a)) n := cnt_mono (fun i hi q => by
      have q' : c i < c a := by simpa using q
      have e1 : c i < c a + 1 := by omega
      have e2 : i ≠ a := fun e => by rw [e] at q'; omega
      simp [e1, e2])
    unfold gc
    unfold gc at h3
    omega
  rw [g, g] at h2
  omega
