/-! ===== pure rows: heaps, ranges, answers ===== -/
theorem hput_lit (h : AH) (r a : Nat) (f : Nat → Int32) : hput h r f a = if a = r then f else h a := rfl
theorem upd_lit (f : Nat → Int32) (k j : Nat) (v : Int32) : upd f k v j = if j = k then v else f j := rfl
theorem bd_s {ρ α : Type} (r : ρ) (h : AH) (K : ρ → AH → Option α) : bd (some (r, h)) K = K r h := rfl
theorem bh_s {α : Type} (h : AH) (K : AH → Option α) : bh (some h) K = K h := rfl
theorem lt_s2 {α β : Type} (v : α) (K : α → β) : lt v K = K v := rfl
theorem gz_0 {α : Type} (K : Option α) : gz 0 K = K := rfl
theorem gz_1 {α : Type} (K : Option α) : gz 1 K = K := rfl
theorem ck_nI {α : Type} {j n : Nat} (K : Option α) (h : j < n) (hn : n < 2 ^ 31) : ck (nI j) n K = K := by
  unfold ck
  exact if_neg (nI_in h hn)
theorem cl_nI {j : Nat} (h : j < 2 ^ 31) : (nI j).toNatClampNeg = j := nI_clamp h
/-- 1 where x is one of 0 .. n - 1 -/
def rg (x : Int32) (n : Nat) : Int32 := if x < 0 then 0 else if nI n ≤ x then 0 else 1
theorem rg_in {j n : Nat} (h : j < n) (hn : n < 2 ^ 31) : rg (nI j) n = 1 := by
  unfold rg
  rw [if_neg (nI_pos (by omega)), if_neg (nI_ge h hn)]
theorem rg_cases (x : Int32) {n : Nat} (hn : n < 2 ^ 31) : rg x n = 0 ∨ ∃ j : Nat, j < n ∧ x = nI j := by
  rcases pk_ix x hn with h | h | h
  · exact Or.inl (by unfold rg; rw [if_pos h])
  · refine Or.inl ?_
    unfold rg
    by_cases h0 : x < 0
    · rw [if_pos h0]
    · rw [if_neg h0, if_pos h]
  · exact Or.inr h
theorem rg_01 (x : Int32) (n : Nat) : rg x n = 0 ∨ rg x n = 1 := by
  unfold rg
  split
  · exact Or.inl rfl
  · split
    · exact Or.inl rfl
    · exact Or.inr rfl
theorem gz_rg {α : Type} (x : Int32) (n : Nat) (K : Option α) : gz (rg x n) K = K := by
  unfold gz
  exact if_pos (rg_01 x n)
theorem ti_lit (n : Nat) (h : n < 2 ^ 31) : (nI n).toInt = n := nI_toInt h
/-- the model's range test over a widened int -/
theorem lg_lt (x y : Int64) : (lg_cmp x y < 0) ↔ x < y := by
  unfold lg_cmp
  simp only [gt_iff_lt, Int64.lt_iff_toInt_lt, ← Int64.toInt_inj]
  split
  · next h => exact ⟨fun q => absurd q (by decide), fun q => by omega⟩
  · split
    · next h => exact ⟨fun q => absurd q (by decide), fun q => by omega⟩
    · exact ⟨fun _ => by omega, fun _ => by decide⟩
theorem lg_gt (x y : Int64) : (0 < lg_cmp x y) ↔ y < x := by
  unfold lg_cmp
  simp only [gt_iff_lt, Int64.lt_iff_toInt_lt, ← Int64.toInt_inj]
  split
  · next h => exact ⟨fun _ => h, fun _ => by decide⟩
  · split
    · next h => exact ⟨fun q => absurd q (by decide), fun q => by omega⟩
    · exact ⟨fun q => absurd q (by decide), fun q => by omega⟩
theorem w_toInt (x : Int32) : x.toInt64.toInt = x.toInt := by simp
theorem m_in (x : Int32) (n : Nat) (hn : n < 2 ^ 31) {lo hi : Int64} (h1 : lo.toInt = 0) (h2 : hi.toInt = (n : Int) - 1) (h : AH) : f_X8_in x.toInt64 lo hi h = some (rg x n, h) := by
  have e0 : (lg_cmp x.toInt64 lo < 0) ↔ x < 0 := by
    rw [lg_lt, Int64.lt_iff_toInt_lt, w_toInt, h1, Int32.lt_iff_toInt_lt]
    rfl
  have e1 : (0 < lg_cmp x.toInt64 hi) ↔ nI n ≤ x := by
    rw [lg_gt, Int64.lt_iff_toInt_lt, w_toInt, h2, Int32.le_iff_toInt_le, nI_toInt hn]
    omega
  unfold f_X8_in rg
  by_cases q0 : x < 0
  · rw [if_pos (e0.mpr q0), if_pos q0]
  · rw [if_neg (fun q => q0 (e0.mp q)), if_neg q0]
    by_cases q1 : nI n ≤ x
    · rw [if_pos (e1.mpr q1), if_pos q1]
    · rw [if_neg (fun q => q1 (e1.mp q)), if_neg q1]
/-- up to a count that is held in a cell -/
theorem m_inC (x : Int32) (n : Nat) (hn : n < 2 ^ 31) (h : AH) : f_X8_in x.toInt64 0 (nI n - 1).toInt64 h = some (rg x n, h) := by
  refine m_in x n hn rfl ?_ h
  rw [w_toInt]
  cases n with
  | zero => decide
  | succ k => rw [nI_pred, nI_toInt (by omega)]; omega
theorem m_isRow (x : Int32) (h : AH) : f_X8_isRow x h = some (rg x 8, h) := by
  unfold f_X8_isRow
  rw [m_in x 8 (by decide) rfl rfl, bd_s, gz_rg]
theorem x_isRow (x : Int32) (h : AH) : f_X5_isRow x h = some (rg x 8, h) := by
  unfold f_X5_isRow rg
  by_cases q0 : x < 0
  · rw [if_pos q0, if_pos q0]
  · rw [if_neg q0, if_neg q0]
    by_cases q1 : (8 : Int32) ≤ x
    · rw [if_pos q1, if_pos (show nI 8 ≤ x from q1)]
    · rw [if_neg q1, if_neg (show ¬ nI 8 ≤ x from q1)]
/-! ===== the state of the bridge, as numbers ===== -/
abbrev Sg : Type := Nat → Nat → Nat
def bsum (f : Nat → Nat) : Nat → Nat
  | 0 => 0
  | n + 1 => bsum f n + f n * 2 ^ n
/-- 0: arches, boats, hour, toll, whether it stands; 1 tides, 2 under, 3 over, 4 high, 5 toll, 6 shut, 7 sort, 8 mast, 9 loads (4 b + t), 10 gone, 11 went (72 side + 6 hour + arch) -/
def WFs (σ : Sg) : Prop :=
  σ 0 0 ≤ 6 ∧ σ 0 1 ≤ 6 ∧ σ 0 2 ≤ 11 ∧ σ 0 4 ≤ 1 ∧ (σ 0 4 = 0 → σ 0 0 = 0 ∧ σ 0 1 = 0 ∧ σ 0 2 = 0 ∧ σ 0 3 = 0) ∧ (∀ t, t < 12 → σ 1 t ≤ 20) ∧
  (∀ a, a < σ 0 0 → σ 2 a ≤ 4 ∧ σ 3 a ≤ 4 ∧ 1 ≤ σ 4 a ∧ σ 4 a ≤ 30 ∧ σ 5 a ≤ 9 ∧ σ 6 a ≤ 1) ∧
  (∀ b, b < σ 0 1 → 1 ≤ σ 7 b ∧ σ 7 b ≤ 5 ∧ σ 8 b ≤ 20 ∧ (∀ t, t < 4 → σ 9 (4 * b + t) ≤ 9) ∧ σ 10 b ≤ 1) ∧
  (∀ i, i < 144 → σ 11 i ≤ 1) ∧ (∀ d t a, d < 2 → t < 12 → a < 6 → σ 0 2 < t → σ 11 (72 * d + 6 * t + a) = 0)
/-- the class's Bridge: its nine cells -/
def CR (c0 c1 c2 c3 c4 c5 c6 c7 c8 : Nat → Int32) (σ : Sg) : Prop :=
  c0 0 = nI (σ 0 4) ∧ c0 1 = nI (σ 0 0) ∧ c0 2 = nI (σ 0 1) ∧ c0 3 = nI (σ 0 2) ∧ c0 4 = nI (σ 0 3) ∧ c0 5 = nI (bsum (σ 6) (σ 0 0)) ∧ c0 6 = nI (bsum (σ 10) (σ 0 1)) ∧
  (∀ t, t < 12 → c1 t = nI (σ 1 t)) ∧ (∀ a, a < σ 0 0 → c2 a = nI (σ 2 a) ∧ c2 (6 + a) = nI (σ 3 a) ∧ c3 a = nI (σ 4 a) ∧ c4 a = nI (σ 5 a)) ∧
  (∀ b, b < σ 0 1 → c5 b = nI (σ 7 b) ∧ c6 b = nI (σ 8 b) ∧ ∀ t, t < 4 → c7 (4 * b + t) = nI (σ 9 (4 * b + t))) ∧
  (∀ d t, d < 2 → t < 12 → c8 (12 * d + t) = nI (bsum (fun a => σ 11 (72 * d + 6 * t + a)) (σ 0 0)))
/-- the model's hundred ints -/
def MR (w : Nat → Int32) (σ : Sg) : Prop :=
  w 0 = nI (σ 0 0) ∧ w 1 = nI (σ 0 1) ∧ w 2 = nI (σ 0 2) ∧ w 3 = nI (σ 0 3) ∧ (∀ t, t < 12 → w (4 + t) = nI (σ 1 t)) ∧
  (∀ a, a < σ 0 0 → w (16 + 7 * a) = nI (σ 2 a) ∧ w (16 + 7 * a + 1) = nI (σ 3 a) ∧ w (16 + 7 * a + 2) = nI (σ 4 a) ∧ w (16 + 7 * a + 3) = nI (σ 5 a) ∧ w (16 + 7 * a + 4) = nI (σ 6 a) ∧ w (16 + 7 * a + 5) = nI (σ 11 (6 * σ 0 2 + a)) ∧ w (16 + 7 * a + 6) = nI (σ 11 (72 + 6 * σ 0 2 + a))) ∧
  (∀ b, b < σ 0 1 → w (58 + 7 * b) = nI (σ 7 b) ∧ w (58 + 7 * b + 1) = nI (σ 8 b) ∧ (∀ t, t < 4 → w (58 + 7 * b + 2 + t) = nI (σ 9 (4 * b + t))) ∧ w (58 + 7 * b + 6) = nI (σ 10 b))
/-- rows: missing on both sides, or alike -/
def RR (la si it ma mn mi : Nat → Int32) : Prop := ∀ r, r < 8 → (si r = -1 ∧ ma r = -1) ∨ ∃ n l : Nat, n ≤ 40 ∧ l ≤ 2 ∧ si r = nI n ∧ la r = nI l ∧ ma r = nI l ∧ mn r = nI n ∧ ∀ j, j < n → it (40 * r + j) = mi (40 * r + j)
def RT (ln : Int32) (by_ : Nat → Int32) (tn : Int32) (tp : Nat → Int32) : Prop := ∃ n : Nat, n ≤ 500 ∧ ln = nI n ∧ tn = nI n ∧ ∀ j, j < n → ∃ v : Nat, v < 256 ∧ tp j = nI v ∧ by_ j = (nI v).toInt8.toInt32
def RC (tn : Int32) (tr : Nat → Int32) (mn : Int32) (mt : Nat → Int32) : Prop := ∃ n : Nat, n ≤ 16 ∧ tn = nI n ∧ mn = nI n ∧ ∀ j, j < n → tr j = mt j
/-- an act's effect: data as the class keeps it, the state before and after it -/
def AR (w f s3 t : Int32) (σ τ : Sg) : Prop :=
  (∃ a d o, a < σ 0 0 ∧ d < 2 ∧ w = nI 0 ∧ f = nI a ∧ s3 = nI d ∧ t = nI (σ (2 + d) a) ∧ o ≤ 4 ∧ ∀ i j, τ i j = if i = 2 + d ∧ j = a then o else σ i j) ∨
  (∃ a o, a < σ 0 0 ∧ w = nI 1 ∧ f = nI a ∧ s3 = nI (σ 6 a) ∧ o ≤ 1 ∧ ∀ i j, τ i j = if i = 6 ∧ j = a then o else σ i j) ∨
  (∃ b a n, b < σ 0 1 ∧ a < σ 0 0 ∧ w = nI 2 ∧ f = nI b ∧ s3 = nI a ∧ t = nI n ∧ σ 10 b = 0 ∧ σ 11 (72 * (if 4 ≤ σ 7 b then 1 else 0) + 6 * σ 0 2 + a) = 0 ∧ ∀ i j, τ i j = if i = 10 ∧ j = b then 1 else if i = 11 ∧ j = 72 * (if 4 ≤ σ 7 b then 1 else 0) + 6 * σ 0 2 + a then 1 else if i = 0 ∧ j = 3 then σ 0 3 + n else σ i j) ∨
  (∃ b u, b < σ 0 1 ∧ u < 4 ∧ σ 0 1 < 6 ∧ w = nI 3 ∧ f = nI b ∧ s3 = nI u ∧ ∀ i j, τ i j = if i = 0 ∧ j = 1 then σ 0 1 + 1 else if i = 7 ∧ j = σ 0 1 then σ 7 b else if i = 8 ∧ j = σ 0 1 then σ 8 b else if i = 10 ∧ j = σ 0 1 then 0 else if i = 9 ∧ j = 4 * σ 0 1 + u then σ 9 (4 * b + u) else if i = 9 ∧ j = 4 * b + u then 0 else if i = 9 ∧ j / 4 = σ 0 1 then 0 else σ i j) ∨
  (w = nI 4 ∧ σ 0 2 < 11 ∧ ∀ i j, τ i j = if i = 0 ∧ j = 2 then σ 0 2 + 1 else σ i j)
/-- the chain of acts that can be undone: n of them, the newest at place (o + n - 1) mod 24 of the ring, its snapshot at 100 (n - 1) -/
def Ch (o : Nat) (wh fi se th : Nat → Int32) (was : Nat → Int32) : Nat → Sg → Prop
  | 0, _ => True
  | n + 1, τ => ∃ σ : Sg, WFs σ ∧ σ 0 4 = 1 ∧ MR (fun j => was (100 * n + j)) σ ∧ AR (wh ((o + n) % 24)) (fi ((o + n) % 24)) (se ((o + n) % 24)) (th ((o + n) % 24)) σ τ ∧ Ch o wh fi se th was n σ
def RA (c0 wh fi se th : Nat → Int32) (mn : Int32) (was : Nat → Int32) (σ : Sg) : Prop := ∃ o n : Nat, o < 24 ∧ n ≤ 24 ∧ c0 4 = nI o ∧ c0 5 = nI n ∧ mn = nI n ∧ (0 < n → σ 0 4 = 1) ∧ Ch o wh fi se th was n σ
def RB (hx hm : AH) (σ : Sg) : Prop := WFs σ ∧ CR (hx 17) (hx 18) (hx 19) (hx 20) (hx 21) (hx 22) (hx 23) (hx 24) (hx 25) σ ∧ MR (hm 4) σ ∧ hm 0 7 = nI (σ 0 4) ∧ RA (hx 44) (hx 45) (hx 46) (hx 47) (hx 48) (hm 0 9) (hm 6) σ
def RI (c0 c1 c2 c3 c4 c5 c6 c7 c8 : Nat → Int32) (fl : Int32) (w : Nat → Int32) : Prop := ∃ σ : Sg, WFs σ ∧ CR c0 c1 c2 c3 c4 c5 c6 c7 c8 σ ∧ MR w σ ∧ fl = nI (σ 0 4)
/-- an image that is kept was made of a bridge that stands -/
def RJ (fl : Nat → Int32) (st : Int32) : Prop := ∀ k, k < 2 → fl k = 0 ∨ st = nI 1
/-- the arches of boats that were placed before -/
def RQ (f : Nat → Int32) : Prop := ∀ y, y < 6 → ∃ v : Nat, v < 6 ∧ f y = nI v
def Rel (hx hm : AH) : Prop :=
  (hx 0 10 = hm 0 1 ∧ hx 0 9 = hm 0 12) ∧ RR (hx 2) (hx 3) (hx 4) (hm 1) (hm 2) (hm 3) ∧ RT (hx 5 1) (hx 6) (hm 0 11) (hm 7) ∧ (∃ σ : Sg, RB hx hm σ) ∧
  RI (hx 26) (hx 27) (hx 28) (hx 29) (hx 30) (hx 31) (hx 32) (hx 33) (hx 34) (hm 16 0) (fun j => hm 17 j) ∧ RI (hx 35) (hx 36) (hx 37) (hx 38) (hx 39) (hx 40) (hx 41) (hx 42) (hx 43) (hm 16 1) (fun j => hm 17 (100 + j)) ∧
  RC (hx 58 1) (hx 59) (hm 0 33) (hm 18) ∧ RJ (hm 16) (hm 0 7) ∧ RQ (hx 56)
theorem neg8_at : ∀ r, r < 8 → neg8 r = -1 := by decide +kernel
theorem rel_start : Rel hz7 hz8 := by
  have z7 : ∀ a, a ≠ 3 → hz7 a = fun _ => 0 := fun a h => by simp [hz7, hput, h]
  have z8 : ∀ a, a ≠ 1 → hz8 a = fun _ => 0 := fun a h => by simp [hz8, hput, h]
  have hw : WFs (fun _ _ => 0) := by
    refine ⟨by decide, by decide, by decide, by decide, fun _ => ⟨rfl, rfl, rfl, rfl⟩, fun _ _ => Nat.zero_le _, fun a h => absurd h (Nat.not_lt_zero a), fun a h => absurd h (Nat.not_lt_zero a), fun _ _ => Nat.zero_le _, fun _ _ _ _ _ _ _ => rfl⟩
  have hbs : ∀ n, bsum (fun _ => 0) n = 0 := by
    intro n
    induction n with
    | zero => rfl
    | succ n ih => simp [bsum, ih]
  have hc : CR (fun _ => 0) (fun _ => 0) (fun _ => 0) (fun _ => 0) (fun _ => 0) (fun _ => 0) (fun _ => 0) (fun _ => 0) (fun _ => 0) (fun _ _ => 0) := by
    refine ⟨rfl, rfl, rfl, rfl, rfl, rfl, rfl, fun _ _ => rfl, fun a h => absurd h (Nat.not_lt_zero a), fun a h => absurd h (Nat.not_lt_zero a), fun d t _ _ => ?_⟩
    rw [show bsum (fun a => (fun _ _ => 0 : Sg) 11 (72 * d + 6 * t + a)) ((fun _ _ => 0 : Sg) 0 0) = 0 from rfl]
    rfl
  have hm0 : MR (fun _ => 0) (fun _ _ => 0) := ⟨rfl, rfl, rfl, rfl, fun _ _ => rfl, fun a h => absurd h (Nat.not_lt_zero a), fun a h => absurd h (Nat.not_lt_zero a)⟩
  refine ⟨⟨?_, ?_⟩, ?_, ?_, ⟨fun _ _ => 0, hw, ?_, ?_, ?_, ?_⟩, ⟨fun _ _ => 0, hw, ?_, ?_, ?_⟩, ⟨fun _ _ => 0, hw, ?_, ?_, ?_⟩, ?_⟩
  · rw [z7 0 (by decide), z8 0 (by decide)]
  · rw [z7 0 (by decide), z8 0 (by decide)]
  · intro r hr
    exact Or.inl ⟨neg8_at r hr, neg8_at r hr⟩
  · rw [z7 5 (by decide), z8 0 (by decide)]
    exact ⟨0, by decide, rfl, rfl, fun j h => absurd h (Nat.not_lt_zero j)⟩
  · rw [z7 17 (by decide), z7 18 (by decide), z7 19 (by decide), z7 20 (by decide), z7 21 (by decide), z7 22 (by decide), z7 23 (by decide), z7 24 (by decide), z7 25 (by decide)]
    exact hc
  · rw [z8 4 (by decide)]; exact hm0
  · rw [z8 0 (by decide)]; rfl
  · rw [z7 44 (by decide), z8 0 (by decide)]
    exact ⟨0, 0, by decide, by decide, rfl, rfl, rfl, fun h => absurd h (Nat.lt_irrefl 0), trivial⟩
  · rw [z7 26 (by decide), z7 27 (by decide), z7 28 (by decide), z7 29 (by decide), z7 30 (by decide), z7 31 (by decide), z7 32 (by decide), z7 33 (by decide), z7 34 (by decide)]
    exact hc
  · rw [z8 17 (by decide)]; exact hm0
  · rw [z8 16 (by decide)]; rfl
  · rw [z7 35 (by decide), z7 36 (by decide), z7 37 (by decide), z7 38 (by decide), z7 39 (by decide), z7 40 (by decide), z7 41 (by decide), z7 42 (by decide), z7 43 (by decide)]
    exact hc
  · rw [z8 17 (by decide)]; exact hm0
  · rw [z8 16 (by decide)]; rfl
  · rw [z7 58 (by decide), z7 56 (by decide), z8 0 (by decide), z8 16 (by decide)]
    exact ⟨⟨0, by decide, rfl, rfl, fun j h => absurd h (Nat.not_lt_zero j)⟩, fun k _ => Or.inl rfl, fun y _ => ⟨0, by decide, rfl⟩⟩
