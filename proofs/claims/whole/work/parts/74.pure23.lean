-- the whole text
theorem nI_all (x : Int32) : ∃ q : Nat, x = nI q := ⟨x.toBitVec.toNat, Int32.toBitVec_inj.mp (by
  show x.toBitVec = BitVec.ofNat 32 x.toBitVec.toNat
  rw [BitVec.ofNat_toNat, BitVec.setWidth_eq])⟩
theorem x_fillL (r n0 : Nat) (v : Int32) (hn : n0 < 1000) : ∀ (k fuel i : Nat) (h : AH), i + k = n0 → k < fuel → f_J7_fill_53178_5 r n0 fuel v (nI i) (nI n0) h = some ((), hput h r (fun j => if i ≤ j ∧ j < n0 then v else h r j)) := by
  intro k
  induction k with
  | zero =>
    intro fuel i h hi hf
    obtain ⟨f, rfl⟩ : ∃ f, fuel = f + 1 := ⟨fuel - 1, by omega⟩
    rw [f_J7_fill_53178_5, if_pos (nI_le (by omega) (by omega))]
    have : (fun j => if i ≤ j ∧ j < n0 then v else h r j) = h r := funext fun j => if_neg (by omega)
    rw [this, hput_id]
  | succ k ih =>
    intro fuel i h hi hf
    obtain ⟨f, rfl⟩ : ∃ f, fuel = f + 1 := ⟨fuel - 1, by omega⟩
    rw [f_J7_fill_53178_5, if_neg (nI_ge (by omega) (by omega)), ck_nI _ (by omega) (by omega), cl_nI (by omega), lt_s2, lt_s2, nI_1, ih f (i + 1) _ (by omega) (by omega), hput_hset]
    congr 3
    funext j
    rw [hs_row]
    unfold upd
    by_cases c : j = i
    · rw [if_neg (by omega), if_pos c, if_pos (by omega)]
    · rw [if_neg c]
      by_cases c2 : i + 1 ≤ j ∧ j < n0
      · rw [if_pos c2, if_pos (by omega)]
      · rw [if_neg c2, if_neg (by omega)]
theorem x_fill (r n0 : Nat) (v : Int32) (hn : n0 < 1000) (h : AH) : f_J7_fill_53178 r n0 v h = some ((), hput h r (fun j => if j < n0 then v else h r j)) := by
  unfold f_J7_fill_53178
  rw [lt_s2, show (0 : Int32) = nI 0 from rfl, show Int32.ofNat n0 = nI n0 from rfl, x_fillL r n0 v hn n0 fu 0 h (by omega) (fu_ge _ (by omega))]
  congr 3
  funext j
  by_cases c : j < n0
  · rw [if_pos c, if_pos (by omega)]
  · rw [if_neg c, if_neg (by omega)]
theorem x_clearB (h : AH) : ∃ h2 : AH, f_X2_clear 8 h = some ((), h2) ∧ (∀ c j, c ≠ 8 → c ≠ 16 → h2 c j = h c j) ∧ h2 8 1 = 0 ∧ h2 8 2 = 0 ∧ h2 8 3 = 0 ∧ h2 8 4 = 0 ∧ h2 8 5 = 0 ∧ h2 8 6 = 0 ∧ ∀ j, j < 24 → h2 16 j = 0 := by
  unfold f_X2_clear
  simp only [gz_0, lt_s2]
  rw [x_fill _ _ _ (by decide), bd_s]
  refine ⟨_, rfl, fun c j c8 c16 => ?_, ?_, ?_, ?_, ?_, ?_, ?_, fun j hj => ?_⟩
  · rw [hput_ne _ _ (by omega)]
    simp only [hs_cell _ 8 _ _ c c8]
  · rw [hput_ne _ _ (by decide), hs_ne (by omega), hs_ne (by omega), hs_ne (by omega), hs_ne (by omega), hs_ne (by omega), hs_self]
  · rw [hput_ne _ _ (by decide), hs_ne (by omega), hs_ne (by omega), hs_ne (by omega), hs_ne (by omega), hs_self]
  · rw [hput_ne _ _ (by decide), hs_ne (by omega), hs_ne (by omega), hs_ne (by omega), hs_self]
  · rw [hput_ne _ _ (by decide), hs_ne (by omega), hs_ne (by omega), hs_self]
  · rw [hput_ne _ _ (by decide), hs_ne (by omega), hs_self]
  · rw [hput_ne _ _ (by decide), hs_self]
  · rw [hput_self, if_pos hj]
theorem m_b11 : ∀ (k fuel i : Nat) (h : AH), i + k = 100 → k < fuel → f_X8_bridge_11 0 fuel (nI i) h = f_X8_bridge_11 0 1 (nI 100) (hput h 5 (fun j => if i ≤ j ∧ j < 100 then 0 else h 5 j)) := by
  intro k
  induction k with
  | zero =>
    intro fuel i h hi hf
    obtain ⟨f, rfl⟩ : ∃ f, fuel = f + 1 := ⟨fuel - 1, by omega⟩
    have : (fun j => if i ≤ j ∧ j < 100 then 0 else h 5 j) = h 5 := funext fun j => if_neg (by omega)
    rw [this, hput_id, show i = 100 by omega, f_X8_bridge_11, f_X8_bridge_11, if_pos (show (100 : Int32) ≤ nI 100 by decide), if_pos (show (100 : Int32) ≤ nI 100 by decide)]
  | succ k ih =>
    intro fuel i h hi hf
    obtain ⟨f, rfl⟩ : ∃ f, fuel = f + 1 := ⟨fuel - 1, by omega⟩
    rw [f_X8_bridge_11, if_neg (show ¬ (100 : Int32) ≤ nI i from nI_ge (b := 100) (by omega) (by decide)), ck_nI _ (by omega) (by decide), cl_nI (by omega), lt_s2, lt_s2, nI_1, ih f (i + 1) _ (by omega) (by omega)]
    congr 1
    rw [Nat.zero_add, hput_hset]
    congr 1
    funext j
    rw [hs_row]
    unfold upd
    by_cases c : j = i
    · rw [if_neg (by omega), if_pos c, if_pos (by omega)]
    · rw [if_neg c]
      by_cases c2 : i + 1 ≤ j ∧ j < 100
      · rw [if_pos c2, if_pos (by omega)]
      · rw [if_neg c2, if_neg (by omega)]
theorem m_b141 : ∀ (k fuel i : Nat) (h : AH), i + k = 100 → k < fuel → f_X8_bridge_141 0 fuel (nI i) h = some ((hput h 4 (fun j => if i ≤ j ∧ j < 100 then h 5 j else h 4 j)) 4 0, hput h 4 (fun j => if i ≤ j ∧ j < 100 then h 5 j else h 4 j)) := by
  intro k
  induction k with
  | zero =>
    intro fuel i h hi hf
    obtain ⟨f, rfl⟩ : ∃ f, fuel = f + 1 := ⟨fuel - 1, by omega⟩
    have : (fun j => if i ≤ j ∧ j < 100 then h 5 j else h 4 j) = h 4 := funext fun j => if_neg (by omega)
    rw [this, hput_id, f_X8_bridge_141, if_pos (show (100 : Int32) ≤ nI i from nI_le (a := 100) (by omega) (by omega)), show (0 : Int32) = nI 0 from rfl, ck_nI _ (by decide) (by decide), cl_nI (by decide)]
  | succ k ih =>
    intro fuel i h hi hf
    obtain ⟨f, rfl⟩ : ∃ f, fuel = f + 1 := ⟨fuel - 1, by omega⟩
    have e : hput (hset h 4 i (h 5 i)) 4 (fun j => if i + 1 ≤ j ∧ j < 100 then hset h 4 i (h 5 i) 5 j else hset h 4 i (h 5 i) 4 j) = hput h 4 (fun j => if i ≤ j ∧ j < 100 then h 5 j else h 4 j) := by
      rw [hput_hset]
      congr 1
      funext j
      rw [hs_row, hs_cell _ _ _ _ 5 (by decide)]
      unfold upd
      by_cases c : j = i
      · rw [if_neg (by omega), if_pos c, if_pos (by omega), c]
      · rw [if_neg c]
        by_cases c2 : i + 1 ≤ j ∧ j < 100
        · rw [if_pos c2, if_pos (by omega)]
        · rw [if_neg c2, if_neg (by omega)]
    rw [f_X8_bridge_141, if_neg (show ¬ (100 : Int32) ≤ nI i from nI_ge (b := 100) (by omega) (by decide)), ck_nI _ (by omega) (by decide), ck_nI _ (by omega) (by decide), cl_nI (by omega), lt_s2, lt_s2, nI_1, Nat.zero_add, Nat.zero_add, ih f (i + 1) _ (by omega) (by omega), e]
theorem bs_z {f : Nat → Nat} : ∀ {n : Nat}, (∀ i, i < n → f i = 0) → bsum f n = 0 := by
  intro n
  induction n with
  | zero => intro _; rfl
  | succ n ih =>
    intro h
    show bsum f n + f n * 2 ^ n = 0
    rw [ih (fun i hi => h i (by omega)), h n (by omega), Nat.zero_mul]
def rdσ (F : Nat → Int32) (a b : Nat) : Sg := fun i j => if i = 0 then (if j = 0 then a else if j = 1 then b else if j = 4 then 1 else 0) else if i = 1 then (F (4 + j)).toNatClampNeg else if i = 2 then (F (16 + 7 * j)).toNatClampNeg else if i = 3 then (F (16 + 7 * j + 1)).toNatClampNeg else if i = 4 then (F (16 + 7 * j + 2)).toNatClampNeg else if i = 5 then (F (16 + 7 * j + 3)).toNatClampNeg else if i = 7 then (F (58 + 7 * j)).toNatClampNeg else if i = 8 then (F (58 + 7 * j + 1)).toNatClampNeg else if i = 9 then (F (58 + 7 * (j / 4) + 2 + j % 4)).toNatClampNeg else 0
theorem cl_e {x : Int32} {v : Nat} (e : x = nI v) (hv : v < 1000) : x.toNatClampNeg = v := by rw [e, cl_nI (by omega)]
theorem read_data {hx hm : AH} {a b : Nat} (ha : a ≤ 6) (hb : b ≤ 6) (x0 : hx 8 0 = 1) (x1 : hx 8 1 = nI a) (x2 : hx 8 2 = nI b) (x3 : hx 8 3 = 0) (x4 : hx 8 4 = 0) (x5 : hx 8 5 = 0) (x6 : hx 8 6 = 0) (x16 : ∀ j, j < 24 → hx 16 j = 0) (m0 : hm 5 0 = nI a) (m1 : hm 5 1 = nI b) (m2 : hm 5 2 = 0) (m3 : hm 5 3 = 0) (mz : ∀ j, j < 6 → hm 5 (16 + 7 * j + 4) = 0 ∧ hm 5 (16 + 7 * j + 5) = 0 ∧ hm 5 (16 + 7 * j + 6) = 0) (mg : ∀ j, j < 6 → hm 5 (58 + 7 * j + 6) = 0) (hT : ∀ t, t < 12 → TD hx hm t) (hA : ∀ i, i < a → AD hx hm i) (hB : ∀ i, i < b → BD hx hm i) : WFs (rdσ (hm 5) a b) ∧ CQ hx 8 (rdσ (hm 5) a b) ∧ MR (hm 5) (rdσ (hm 5) a b) := by
  generalize hs : rdσ (hm 5) a b = σ
  have s00 : σ 0 0 = a := by rw [← hs]; rfl
  have s01 : σ 0 1 = b := by rw [← hs]; rfl
  have s02 : σ 0 2 = 0 := by rw [← hs]; rfl
  have s03 : σ 0 3 = 0 := by rw [← hs]; rfl
  have s04 : σ 0 4 = 1 := by rw [← hs]; rfl
  have s6 : ∀ j, σ 6 j = 0 := fun j => by rw [← hs]; rfl
  have s10 : ∀ j, σ 10 j = 0 := fun j => by rw [← hs]; rfl
  have s11 : ∀ j, σ 11 j = 0 := fun j => by rw [← hs]; rfl
  have t1 : ∀ t, t < 12 → σ 1 t ≤ 20 ∧ hx 9 t = nI (σ 1 t) ∧ hm 5 (4 + t) = nI (σ 1 t) := by
    intro t ht
    obtain ⟨v, v1, v2, v3⟩ := hT t ht
    have e : σ 1 t = v := by rw [← hs]; exact cl_e v3 (by omega)
    rw [e]; exact ⟨v1, v2, v3⟩
  have ta : ∀ i, i < a → (σ 2 i ≤ 4 ∧ σ 3 i ≤ 4 ∧ 1 ≤ σ 4 i ∧ σ 4 i ≤ 30 ∧ σ 5 i ≤ 9) ∧ (hx 10 i = nI (σ 2 i) ∧ hx 10 (6 + i) = nI (σ 3 i) ∧ hx 11 i = nI (σ 4 i) ∧ hx 12 i = nI (σ 5 i)) ∧ (hm 5 (16 + 7 * i) = nI (σ 2 i) ∧ hm 5 (16 + 7 * i + 1) = nI (σ 3 i) ∧ hm 5 (16 + 7 * i + 2) = nI (σ 4 i) ∧ hm 5 (16 + 7 * i + 3) = nI (σ 5 i)) := by
    intro i hi
    obtain ⟨u, o, t, l, p1, p2, p3, p4, p5, p6, p7, p8, p9, p10, p11, p12, p13⟩ := hA i hi
    have e2 : σ 2 i = u := by rw [← hs]; exact cl_e p10 (by omega)
    have e3 : σ 3 i = o := by rw [← hs]; exact cl_e p11 (by omega)
    have e4 : σ 4 i = t := by rw [← hs]; exact cl_e p12 (by omega)
    have e5 : σ 5 i = l := by rw [← hs]; exact cl_e p13 (by omega)
    rw [e2, e3, e4, e5]
    exact ⟨⟨p1, p2, p3, p4, p5⟩, ⟨p6, p7, p8, p9⟩, p10, p11, p12, p13⟩
  have tb : ∀ i, i < b → (1 ≤ σ 7 i ∧ σ 7 i ≤ 5 ∧ σ 8 i ≤ 20) ∧ (hx 13 i = nI (σ 7 i) ∧ hx 14 i = nI (σ 8 i)) ∧ (hm 5 (58 + 7 * i) = nI (σ 7 i) ∧ hm 5 (58 + 7 * i + 1) = nI (σ 8 i)) ∧ ∀ t, t < 4 → σ 9 (4 * i + t) ≤ 9 ∧ hx 15 (4 * i + t) = nI (σ 9 (4 * i + t)) ∧ hm 5 (58 + 7 * i + 2 + t) = nI (σ 9 (4 * i + t)) := by
    intro i hi
    obtain ⟨u, o, p1, p2, p3, p4, p5, p6, p7, p8⟩ := hB i hi
    have e7 : σ 7 i = u := by rw [← hs]; exact cl_e p6 (by omega)
    have e8 : σ 8 i = o := by rw [← hs]; exact cl_e p7 (by omega)
    rw [e7, e8]
    refine ⟨⟨p1, p2, p3⟩, ⟨p4, p5⟩, ⟨p6, p7⟩, fun t ht => ?_⟩
    obtain ⟨v, v1, v2, v3⟩ := p8 t ht
    have e9 : σ 9 (4 * i + t) = v := by
      rw [← hs]
      refine cl_e ?_ (show v < 1000 by omega)
      rw [show 58 + 7 * ((4 * i + t) / 4) + 2 + (4 * i + t) % 4 = 58 + 7 * i + 2 + t by omega]
      exact v3
    rw [e9]; exact ⟨v1, v2, v3⟩
  refine ⟨⟨?_, ?_, ?_, ?_, ?_, ?_, ?_, ?_, ?_, ?_⟩, ⟨?_, ?_, ?_, ?_, ?_, ?_, ?_, ?_, ?_, ?_, ?_⟩, ?_, ?_, ?_, ?_, ?_, ?_, ?_⟩
  · omega
  · omega
  · omega
  · omega
  · intro z; omega
  · exact fun t ht => (t1 t ht).1
  · intro i hi
    have := (ta i (by omega)).1
    have := s6 i
    omega
  · intro i hi
    have h := tb i (by omega)
    refine ⟨h.1.1, h.1.2.1, h.1.2.2, fun t ht => (h.2.2.2 t ht).1, ?_⟩
    rw [s10]; decide
  · intro i _
    rw [s11]; decide
  · intro d t i _ _ _ _
    exact s11 _
  · rw [s04]; exact x0
  · rw [s00]; exact x1
  · rw [s01]; exact x2
  · rw [s02]; exact x3
  · rw [s03]; exact x4
  · rw [bs_z (fun i _ => s6 i)]; exact x5
  · rw [bs_z (fun i _ => s10 i)]; exact x6
  · exact fun t ht => (t1 t ht).2.1
  · exact fun i hi => (ta i (by omega)).2.1
  · intro i hi
    have h := tb i (by omega)
    exact ⟨h.2.1.1, h.2.1.2, fun t ht => (h.2.2.2 t ht).2.1⟩
  · intro d t hd ht
    rw [bs_z (fun i _ => s11 _)]
    exact x16 _ (by omega)
  · rw [s00]; exact m0
  · rw [s01]; exact m1
  · rw [s02]; exact m2
  · rw [s03]; exact m3
  · exact fun t ht => (t1 t ht).2.2
  · intro i hi
    have h := (ta i (by omega)).2.2
    have z := mz i (by omega)
    rw [s6, s11, s11]
    exact ⟨h.1, h.2.1, h.2.2.1, h.2.2.2, z⟩
  · intro i hi
    have h := tb i (by omega)
    rw [s10]
    exact ⟨h.2.2.1.1, h.2.2.1.2, fun t ht => (h.2.2.2 t ht).2.2, mg i (by omega)⟩
