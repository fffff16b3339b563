def wl (r : Nat) : Nat := ksl.getD r 0
def wcs : List (List Nat) := [[116, 105, 100, 101], [97, 114, 99, 104], [98, 111, 97, 116], [98, 97, 114, 103, 101], [99, 111, 103], [114, 97, 102, 116], [99, 97, 114, 116], [119, 97, 105, 110]]
def wc (r i : Nat) : Nat := (wcs.getD r []).getD i 0
def CW (r : Nat) : Nat := [1953064037, 1634886504, 1651466612, 422541682533, 6516583, 1918985844, 1667330676, 2002872686].getD r 0
theorem ln_0 (h : AH) : f_J0_length_8abf5 0 h = some (nI 4, h) := by
  have e : Int32.ofNat (ksl.getD 0 0) >>> ((0 : Int32) &&& 31) = nI 4 := by decide +kernel
  unfold f_J0_length_8abf5
  rw [bd_s, e]
theorem ch_0_0 (h : AH) : f_J0_charAt_5068e 0 (nI 0) h = some (nI 116, h) := rfl
theorem ch_0_1 (h : AH) : f_J0_charAt_5068e 0 (nI 1) h = some (nI 105, h) := rfl
theorem ch_0_2 (h : AH) : f_J0_charAt_5068e 0 (nI 2) h = some (nI 100, h) := rfl
theorem ch_0_3 (h : AH) : f_J0_charAt_5068e 0 (nI 3) h = some (nI 101, h) := rfl
theorem ln_1 (h : AH) : f_J0_length_8abf5 1 h = some (nI 4, h) := by
  have e : Int32.ofNat (ksl.getD 1 0) >>> ((0 : Int32) &&& 31) = nI 4 := by decide +kernel
  unfold f_J0_length_8abf5
  rw [bd_s, e]
theorem ch_1_0 (h : AH) : f_J0_charAt_5068e 1 (nI 0) h = some (nI 97, h) := rfl
theorem ch_1_1 (h : AH) : f_J0_charAt_5068e 1 (nI 1) h = some (nI 114, h) := rfl
theorem ch_1_2 (h : AH) : f_J0_charAt_5068e 1 (nI 2) h = some (nI 99, h) := rfl
theorem ch_1_3 (h : AH) : f_J0_charAt_5068e 1 (nI 3) h = some (nI 104, h) := rfl
theorem ln_2 (h : AH) : f_J0_length_8abf5 2 h = some (nI 4, h) := by
  have e : Int32.ofNat (ksl.getD 2 0) >>> ((0 : Int32) &&& 31) = nI 4 := by decide +kernel
  unfold f_J0_length_8abf5
  rw [bd_s, e]
theorem ch_2_0 (h : AH) : f_J0_charAt_5068e 2 (nI 0) h = some (nI 98, h) := rfl
theorem ch_2_1 (h : AH) : f_J0_charAt_5068e 2 (nI 1) h = some (nI 111, h) := rfl
theorem ch_2_2 (h : AH) : f_J0_charAt_5068e 2 (nI 2) h = some (nI 97, h) := rfl
theorem ch_2_3 (h : AH) : f_J0_charAt_5068e 2 (nI 3) h = some (nI 116, h) := rfl
theorem ln_3 (h : AH) : f_J0_length_8abf5 3 h = some (nI 5, h) := by
  have e : Int32.ofNat (ksl.getD 3 0) >>> ((0 : Int32) &&& 31) = nI 5 := by decide +kernel
  unfold f_J0_length_8abf5
  rw [bd_s, e]
theorem ch_3_0 (h : AH) : f_J0_charAt_5068e 3 (nI 0) h = some (nI 98, h) := rfl
theorem ch_3_1 (h : AH) : f_J0_charAt_5068e 3 (nI 1) h = some (nI 97, h) := rfl
theorem ch_3_2 (h : AH) : f_J0_charAt_5068e 3 (nI 2) h = some (nI 114, h) := rfl
theorem ch_3_3 (h : AH) : f_J0_charAt_5068e 3 (nI 3) h = some (nI 103, h) := rfl
theorem ch_3_4 (h : AH) : f_J0_charAt_5068e 3 (nI 4) h = some (nI 101, h) := rfl
theorem ln_4 (h : AH) : f_J0_length_8abf5 4 h = some (nI 3, h) := by
  have e : Int32.ofNat (ksl.getD 4 0) >>> ((0 : Int32) &&& 31) = nI 3 := by decide +kernel
  unfold f_J0_length_8abf5
  rw [bd_s, e]
theorem ch_4_0 (h : AH) : f_J0_charAt_5068e 4 (nI 0) h = some (nI 99, h) := rfl
theorem ch_4_1 (h : AH) : f_J0_charAt_5068e 4 (nI 1) h = some (nI 111, h) := rfl
theorem ch_4_2 (h : AH) : f_J0_charAt_5068e 4 (nI 2) h = some (nI 103, h) := rfl
theorem ln_5 (h : AH) : f_J0_length_8abf5 5 h = some (nI 4, h) := by
  have e : Int32.ofNat (ksl.getD 5 0) >>> ((0 : Int32) &&& 31) = nI 4 := by decide +kernel
  unfold f_J0_length_8abf5
  rw [bd_s, e]
theorem ch_5_0 (h : AH) : f_J0_charAt_5068e 5 (nI 0) h = some (nI 114, h) := rfl
theorem ch_5_1 (h : AH) : f_J0_charAt_5068e 5 (nI 1) h = some (nI 97, h) := rfl
theorem ch_5_2 (h : AH) : f_J0_charAt_5068e 5 (nI 2) h = some (nI 102, h) := rfl
theorem ch_5_3 (h : AH) : f_J0_charAt_5068e 5 (nI 3) h = some (nI 116, h) := rfl
theorem ln_6 (h : AH) : f_J0_length_8abf5 6 h = some (nI 4, h) := by
  have e : Int32.ofNat (ksl.getD 6 0) >>> ((0 : Int32) &&& 31) = nI 4 := by decide +kernel
  unfold f_J0_length_8abf5
  rw [bd_s, e]
theorem ch_6_0 (h : AH) : f_J0_charAt_5068e 6 (nI 0) h = some (nI 99, h) := rfl
theorem ch_6_1 (h : AH) : f_J0_charAt_5068e 6 (nI 1) h = some (nI 97, h) := rfl
theorem ch_6_2 (h : AH) : f_J0_charAt_5068e 6 (nI 2) h = some (nI 114, h) := rfl
theorem ch_6_3 (h : AH) : f_J0_charAt_5068e 6 (nI 3) h = some (nI 116, h) := rfl
theorem ln_7 (h : AH) : f_J0_length_8abf5 7 h = some (nI 4, h) := by
  have e : Int32.ofNat (ksl.getD 7 0) >>> ((0 : Int32) &&& 31) = nI 4 := by decide +kernel
  unfold f_J0_length_8abf5
  rw [bd_s, e]
theorem ch_7_0 (h : AH) : f_J0_charAt_5068e 7 (nI 0) h = some (nI 119, h) := rfl
theorem ch_7_1 (h : AH) : f_J0_charAt_5068e 7 (nI 1) h = some (nI 97, h) := rfl
theorem ch_7_2 (h : AH) : f_J0_charAt_5068e 7 (nI 2) h = some (nI 105, h) := rfl
theorem ch_7_3 (h : AH) : f_J0_charAt_5068e 7 (nI 3) h = some (nI 110, h) := rfl
theorem x_len {r : Nat} (hr : r < 8) (h : AH) : f_J0_length_8abf5 r h = some (nI (wl r), h) := by
  rcases (show r = 0 ∨ r = 1 ∨ r = 2 ∨ r = 3 ∨ r = 4 ∨ r = 5 ∨ r = 6 ∨ r = 7 by omega) with rfl | rfl | rfl | rfl | rfl | rfl | rfl | rfl
  · exact ln_0 h
  · exact ln_1 h
  · exact ln_2 h
  · exact ln_3 h
  · exact ln_4 h
  · exact ln_5 h
  · exact ln_6 h
  · exact ln_7 h
theorem x_chr {r i : Nat} (hr : r < 8) (hi : i < wl r) (h : AH) : f_J0_charAt_5068e r (nI i) h = some (nI (wc r i), h) := by
  rcases (show r = 0 ∨ r = 1 ∨ r = 2 ∨ r = 3 ∨ r = 4 ∨ r = 5 ∨ r = 6 ∨ r = 7 by omega) with rfl | rfl | rfl | rfl | rfl | rfl | rfl | rfl
  · have hi : i < 4 := hi
    rcases (show i = 0 ∨ i = 1 ∨ i = 2 ∨ i = 3 by omega) with rfl | rfl | rfl | rfl
    · exact ch_0_0 h
    · exact ch_0_1 h
    · exact ch_0_2 h
    · exact ch_0_3 h
  · have hi : i < 4 := hi
    rcases (show i = 0 ∨ i = 1 ∨ i = 2 ∨ i = 3 by omega) with rfl | rfl | rfl | rfl
    · exact ch_1_0 h
    · exact ch_1_1 h
    · exact ch_1_2 h
    · exact ch_1_3 h
  · have hi : i < 4 := hi
    rcases (show i = 0 ∨ i = 1 ∨ i = 2 ∨ i = 3 by omega) with rfl | rfl | rfl | rfl
    · exact ch_2_0 h
    · exact ch_2_1 h
    · exact ch_2_2 h
    · exact ch_2_3 h
  · have hi : i < 5 := hi
    rcases (show i = 0 ∨ i = 1 ∨ i = 2 ∨ i = 3 ∨ i = 4 by omega) with rfl | rfl | rfl | rfl | rfl
    · exact ch_3_0 h
    · exact ch_3_1 h
    · exact ch_3_2 h
    · exact ch_3_3 h
    · exact ch_3_4 h
  · have hi : i < 3 := hi
    rcases (show i = 0 ∨ i = 1 ∨ i = 2 by omega) with rfl | rfl | rfl
    · exact ch_4_0 h
    · exact ch_4_1 h
    · exact ch_4_2 h
  · have hi : i < 4 := hi
    rcases (show i = 0 ∨ i = 1 ∨ i = 2 ∨ i = 3 by omega) with rfl | rfl | rfl | rfl
    · exact ch_5_0 h
    · exact ch_5_1 h
    · exact ch_5_2 h
    · exact ch_5_3 h
  · have hi : i < 4 := hi
    rcases (show i = 0 ∨ i = 1 ∨ i = 2 ∨ i = 3 by omega) with rfl | rfl | rfl | rfl
    · exact ch_6_0 h
    · exact ch_6_1 h
    · exact ch_6_2 h
    · exact ch_6_3 h
  · have hi : i < 4 := hi
    rcases (show i = 0 ∨ i = 1 ∨ i = 2 ∨ i = 3 by omega) with rfl | rfl | rfl | rfl
    · exact ch_7_0 h
    · exact ch_7_1 h
    · exact ch_7_2 h
    · exact ch_7_3 h
def nmv (V : Nat → Nat) : Nat → Nat → Nat → Nat
  | 0, _, x => x
  | k + 1, p, x => nmv V k (p + 1) (x * 256 + V p)
def chk (V : Nat → Nat) (s r : Nat) : Nat → Nat → Nat
  | 0, _ => 1
  | k + 1, i => if V (s + i) = wc r i then chk V s r k (i + 1) else 0
theorem chk_01 (V : Nat → Nat) (s r : Nat) : ∀ k i, chk V s r k i ≤ 1 := by
  intro k
  induction k with
  | zero => intro i; exact Nat.le_refl _
  | succ k ih =>
    intro i
    unfold chk
    split
    · exact ih _
    · exact Nat.zero_le _
theorem nmv_0 (V : Nat → Nat) (s : Nat) : nmv V 0 s 0 = 0 := rfl
theorem nmv_1 (V : Nat → Nat) (s : Nat) : nmv V 1 s 0 = (0 * 256 + V s) := rfl
theorem nmv_2 (V : Nat → Nat) (s : Nat) : nmv V 2 s 0 = ((0 * 256 + V s) * 256 + V (s + 1)) := rfl
theorem nmv_3 (V : Nat → Nat) (s : Nat) : nmv V 3 s 0 = (((0 * 256 + V s) * 256 + V (s + 1)) * 256 + V (s + 2)) := rfl
theorem nmv_4 (V : Nat → Nat) (s : Nat) : nmv V 4 s 0 = ((((0 * 256 + V s) * 256 + V (s + 1)) * 256 + V (s + 2)) * 256 + V (s + 3)) := rfl
theorem nmv_5 (V : Nat → Nat) (s : Nat) : nmv V 5 s 0 = (((((0 * 256 + V s) * 256 + V (s + 1)) * 256 + V (s + 2)) * 256 + V (s + 3)) * 256 + V (s + 4)) := rfl
theorem nmv_6 (V : Nat → Nat) (s : Nat) : nmv V 6 s 0 = ((((((0 * 256 + V s) * 256 + V (s + 1)) * 256 + V (s + 2)) * 256 + V (s + 3)) * 256 + V (s + 4)) * 256 + V (s + 5)) := rfl
theorem nmv_7 (V : Nat → Nat) (s : Nat) : nmv V 7 s 0 = (((((((0 * 256 + V s) * 256 + V (s + 1)) * 256 + V (s + 2)) * 256 + V (s + 3)) * 256 + V (s + 4)) * 256 + V (s + 5)) * 256 + V (s + 6)) := rfl
theorem chk_0 (V : Nat → Nat) (s : Nat) : chk V s 0 4 0 = if V s = 116 then (if V (s + 1) = 105 then (if V (s + 2) = 100 then (if V (s + 3) = 101 then 1 else 0) else 0) else 0) else 0 := rfl
theorem wq_0 {V : Nat → Nat} {s l x : Nat} (hl : l < 8) (hv : ∀ j, j < l → 97 ≤ V (s + j) ∧ V (s + j) ≤ 122) (hw : x = nmv V l s 0) : (if l = 4 then chk V s 0 4 0 else 0) = if x = 1953064037 then 1 else 0 := by
  rcases (show l = 0 ∨ l = 1 ∨ l = 2 ∨ l = 3 ∨ l = 4 ∨ l = 5 ∨ l = 6 ∨ l = 7 by omega) with rfl | rfl | rfl | rfl | rfl | rfl | rfl | rfl
  · rw [nmv_0] at hw
    rw [if_neg (by decide), if_neg (by omega)]
  · rw [nmv_1] at hw
    have v0 := hv 0 (by decide)
    rw [Nat.add_zero] at v0
    rw [if_neg (by decide), if_neg (by omega)]
  · rw [nmv_2] at hw
    have v0 := hv 0 (by decide)
    have v1 := hv 1 (by decide)
    rw [Nat.add_zero] at v0
    rw [if_neg (by decide), if_neg (by omega)]
  · rw [nmv_3] at hw
    have v0 := hv 0 (by decide)
    have v1 := hv 1 (by decide)
    have v2 := hv 2 (by decide)
    rw [Nat.add_zero] at v0
    rw [if_neg (by decide), if_neg (by omega)]
  · rw [nmv_4] at hw
    have v0 := hv 0 (by decide)
    have v1 := hv 1 (by decide)
    have v2 := hv 2 (by decide)
    have v3 := hv 3 (by decide)
    rw [Nat.add_zero] at v0
    rw [if_pos rfl, chk_0]
    by_cases c : x = 1953064037
    · rw [if_pos c, if_pos (by omega), if_pos (by omega), if_pos (by omega), if_pos (by omega)]
    · rw [if_neg c]
      by_cases c0 : V s = 116
      rotate_left
      · rw [if_neg c0]
      by_cases c1 : V (s + 1) = 105
      rotate_left
      · rw [if_pos c0, if_neg c1]
      by_cases c2 : V (s + 2) = 100
      rotate_left
      · rw [if_pos c0, if_pos c1, if_neg c2]
      by_cases c3 : V (s + 3) = 101
      rotate_left
      · rw [if_pos c0, if_pos c1, if_pos c2, if_neg c3]
      omega
  · rw [nmv_5] at hw
    have v0 := hv 0 (by decide)
    have v1 := hv 1 (by decide)
    have v2 := hv 2 (by decide)
    have v3 := hv 3 (by decide)
    have v4 := hv 4 (by decide)
    rw [Nat.add_zero] at v0
    rw [if_neg (by decide), if_neg (by omega)]
  · rw [nmv_6] at hw
    have v0 := hv 0 (by decide)
    have v1 := hv 1 (by decide)
    have v2 := hv 2 (by decide)
    have v3 := hv 3 (by decide)
    have v4 := hv 4 (by decide)
    have v5 := hv 5 (by decide)
    rw [Nat.add_zero] at v0
    rw [if_neg (by decide), if_neg (by omega)]
  · rw [nmv_7] at hw
    have v0 := hv 0 (by decide)
    have v1 := hv 1 (by decide)
    have v2 := hv 2 (by decide)
    have v3 := hv 3 (by decide)
    have v4 := hv 4 (by decide)
    have v5 := hv 5 (by decide)
    have v6 := hv 6 (by decide)
    rw [Nat.add_zero] at v0
    rw [if_neg (by decide), if_neg (by omega)]
theorem chk_1 (V : Nat → Nat) (s : Nat) : chk V s 1 4 0 = if V s = 97 then (if V (s + 1) = 114 then (if V (s + 2) = 99 then (if V (s + 3) = 104 then 1 else 0) else 0) else 0) else 0 := rfl
theorem wq_1 {V : Nat → Nat} {s l x : Nat} (hl : l < 8) (hv : ∀ j, j < l → 97 ≤ V (s + j) ∧ V (s + j) ≤ 122) (hw : x = nmv V l s 0) : (if l = 4 then chk V s 1 4 0 else 0) = if x = 1634886504 then 1 else 0 := by
  rcases (show l = 0 ∨ l = 1 ∨ l = 2 ∨ l = 3 ∨ l = 4 ∨ l = 5 ∨ l = 6 ∨ l = 7 by omega) with rfl | rfl | rfl | rfl | rfl | rfl | rfl | rfl
  · rw [nmv_0] at hw
    rw [if_neg (by decide), if_neg (by omega)]
  · rw [nmv_1] at hw
    have v0 := hv 0 (by decide)
    rw [Nat.add_zero] at v0
    rw [if_neg (by decide), if_neg (by omega)]
  · rw [nmv_2] at hw
    have v0 := hv 0 (by decide)
    have v1 := hv 1 (by decide)
    rw [Nat.add_zero] at v0
    rw [if_neg (by decide), if_neg (by omega)]
  · rw [nmv_3] at hw
    have v0 := hv 0 (by decide)
    have v1 := hv 1 (by decide)
    have v2 := hv 2 (by decide)
    rw [Nat.add_zero] at v0
    rw [if_neg (by decide), if_neg (by omega)]
  · rw [nmv_4] at hw
    have v0 := hv 0 (by decide)
    have v1 := hv 1 (by decide)
    have v2 := hv 2 (by decide)
    have v3 := hv 3 (by decide)
    rw [Nat.add_zero] at v0
    rw [if_pos rfl, chk_1]
    by_cases c : x = 1634886504
    · rw [if_pos c, if_pos (by omega), if_pos (by omega), if_pos (by omega), if_pos (by omega)]
    · rw [if_neg c]
      by_cases c0 : V s = 97
      rotate_left
      · rw [if_neg c0]
      by_cases c1 : V (s + 1) = 114
      rotate_left
      · rw [if_pos c0, if_neg c1]
      by_cases c2 : V (s + 2) = 99
      rotate_left
      · rw [if_pos c0, if_pos c1, if_neg c2]
      by_cases c3 : V (s + 3) = 104
      rotate_left
      · rw [if_pos c0, if_pos c1, if_pos c2, if_neg c3]
      omega
  · rw [nmv_5] at hw
    have v0 := hv 0 (by decide)
    have v1 := hv 1 (by decide)
    have v2 := hv 2 (by decide)
    have v3 := hv 3 (by decide)
    have v4 := hv 4 (by decide)
    rw [Nat.add_zero] at v0
    rw [if_neg (by decide), if_neg (by omega)]
  · rw [nmv_6] at hw
    have v0 := hv 0 (by decide)
    have v1 := hv 1 (by decide)
    have v2 := hv 2 (by decide)
    have v3 := hv 3 (by decide)
    have v4 := hv 4 (by decide)
    have v5 := hv 5 (by decide)
    rw [Nat.add_zero] at v0
    rw [if_neg (by decide), if_neg (by omega)]
  · rw [nmv_7] at hw
    have v0 := hv 0 (by decide)
    have v1 := hv 1 (by decide)
    have v2 := hv 2 (by decide)
    have v3 := hv 3 (by decide)
    have v4 := hv 4 (by decide)
    have v5 := hv 5 (by decide)
    have v6 := hv 6 (by decide)
    rw [Nat.add_zero] at v0
    rw [if_neg (by decide), if_neg (by omega)]
theorem chk_2 (V : Nat → Nat) (s : Nat) : chk V s 2 4 0 = if V s = 98 then (if V (s + 1) = 111 then (if V (s + 2) = 97 then (if V (s + 3) = 116 then 1 else 0) else 0) else 0) else 0 := rfl
theorem wq_2 {V : Nat → Nat} {s l x : Nat} (hl : l < 8) (hv : ∀ j, j < l → 97 ≤ V (s + j) ∧ V (s + j) ≤ 122) (hw : x = nmv V l s 0) : (if l = 4 then chk V s 2 4 0 else 0) = if x = 1651466612 then 1 else 0 := by
  rcases (show l = 0 ∨ l = 1 ∨ l = 2 ∨ l = 3 ∨ l = 4 ∨ l = 5 ∨ l = 6 ∨ l = 7 by omega) with rfl | rfl | rfl | rfl | rfl | rfl | rfl | rfl
  · rw [nmv_0] at hw
    rw [if_neg (by decide), if_neg (by omega)]
  · rw [nmv_1] at hw
    have v0 := hv 0 (by decide)
    rw [Nat.add_zero] at v0
    rw [if_neg (by decide), if_neg (by omega)]
  · rw [nmv_2] at hw
    have v0 := hv 0 (by decide)
    have v1 := hv 1 (by decide)
    rw [Nat.add_zero] at v0
    rw [if_neg (by decide), if_neg (by omega)]
  · rw [nmv_3] at hw
    have v0 := hv 0 (by decide)
    have v1 := hv 1 (by decide)
    have v2 := hv 2 (by decide)
    rw [Nat.add_zero] at v0
    rw [if_neg (by decide), if_neg (by omega)]
  · rw [nmv_4] at hw
    have v0 := hv 0 (by decide)
    have v1 := hv 1 (by decide)
    have v2 := hv 2 (by decide)
    have v3 := hv 3 (by decide)
    rw [Nat.add_zero] at v0
    rw [if_pos rfl, chk_2]
    by_cases c : x = 1651466612
    · rw [if_pos c, if_pos (by omega), if_pos (by omega), if_pos (by omega), if_pos (by omega)]
    · rw [if_neg c]
      by_cases c0 : V s = 98
      rotate_left
      · rw [if_neg c0]
      by_cases c1 : V (s + 1) = 111
      rotate_left
      · rw [if_pos c0, if_neg c1]
      by_cases c2 : V (s + 2) = 97
      rotate_left
      · rw [if_pos c0, if_pos c1, if_neg c2]
      by_cases c3 : V (s + 3) = 116
      rotate_left
      · rw [if_pos c0, if_pos c1, if_pos c2, if_neg c3]
      omega
  · rw [nmv_5] at hw
    have v0 := hv 0 (by decide)
    have v1 := hv 1 (by decide)
    have v2 := hv 2 (by decide)
    have v3 := hv 3 (by decide)
    have v4 := hv 4 (by decide)
    rw [Nat.add_zero] at v0
    rw [if_neg (by decide), if_neg (by omega)]
  · rw [nmv_6] at hw
    have v0 := hv 0 (by decide)
    have v1 := hv 1 (by decide)
    have v2 := hv 2 (by decide)
    have v3 := hv 3 (by decide)
    have v4 := hv 4 (by decide)
    have v5 := hv 5 (by decide)
    rw [Nat.add_zero] at v0
    rw [if_neg (by decide), if_neg (by omega)]
  · rw [nmv_7] at hw
    have v0 := hv 0 (by decide)
    have v1 := hv 1 (by decide)
    have v2 := hv 2 (by decide)
    have v3 := hv 3 (by decide)
    have v4 := hv 4 (by decide)
    have v5 := hv 5 (by decide)
    have v6 := hv 6 (by decide)
    rw [Nat.add_zero] at v0
    rw [if_neg (by decide), if_neg (by omega)]
theorem chk_3 (V : Nat → Nat) (s : Nat) : chk V s 3 5 0 = if V s = 98 then (if V (s + 1) = 97 then (if V (s + 2) = 114 then (if V (s + 3) = 103 then (if V (s + 4) = 101 then 1 else 0) else 0) else 0) else 0) else 0 := rfl
theorem wq_3 {V : Nat → Nat} {s l x : Nat} (hl : l < 8) (hv : ∀ j, j < l → 97 ≤ V (s + j) ∧ V (s + j) ≤ 122) (hw : x = nmv V l s 0) : (if l = 5 then chk V s 3 5 0 else 0) = if x = 422541682533 then 1 else 0 := by
  rcases (show l = 0 ∨ l = 1 ∨ l = 2 ∨ l = 3 ∨ l = 4 ∨ l = 5 ∨ l = 6 ∨ l = 7 by omega) with rfl | rfl | rfl | rfl | rfl | rfl | rfl | rfl
  · rw [nmv_0] at hw
    rw [if_neg (by decide), if_neg (by omega)]
  · rw [nmv_1] at hw
    have v0 := hv 0 (by decide)
    rw [Nat.add_zero] at v0
    rw [if_neg (by decide), if_neg (by omega)]
  · rw [nmv_2] at hw
    have v0 := hv 0 (by decide)
    have v1 := hv 1 (by decide)
    rw [Nat.add_zero] at v0
    rw [if_neg (by decide), if_neg (by omega)]
  · rw [nmv_3] at hw
    have v0 := hv 0 (by decide)
    have v1 := hv 1 (by decide)
    have v2 := hv 2 (by decide)
    rw [Nat.add_zero] at v0
    rw [if_neg (by decide), if_neg (by omega)]
  · rw [nmv_4] at hw
    have v0 := hv 0 (by decide)
    have v1 := hv 1 (by decide)
    have v2 := hv 2 (by decide)
    have v3 := hv 3 (by decide)
    rw [Nat.add_zero] at v0
    rw [if_neg (by decide), if_neg (by omega)]
  · rw [nmv_5] at hw
    have v0 := hv 0 (by decide)
    have v1 := hv 1 (by decide)
    have v2 := hv 2 (by decide)
    have v3 := hv 3 (by decide)
    have v4 := hv 4 (by decide)
    rw [Nat.add_zero] at v0
    rw [if_pos rfl, chk_3]
    by_cases c : x = 422541682533
    · rw [if_pos c, if_pos (by omega), if_pos (by omega), if_pos (by omega), if_pos (by omega), if_pos (by omega)]
    · rw [if_neg c]
      by_cases c0 : V s = 98
      rotate_left
      · rw [if_neg c0]
      by_cases c1 : V (s + 1) = 97
      rotate_left
      · rw [if_pos c0, if_neg c1]
      by_cases c2 : V (s + 2) = 114
      rotate_left
      · rw [if_pos c0, if_pos c1, if_neg c2]
      by_cases c3 : V (s + 3) = 103
      rotate_left
      · rw [if_pos c0, if_pos c1, if_pos c2, if_neg c3]
      by_cases c4 : V (s + 4) = 101
      rotate_left
      · rw [if_pos c0, if_pos c1, if_pos c2, if_pos c3, if_neg c4]
      omega
  · rw [nmv_6] at hw
    have v0 := hv 0 (by decide)
    have v1 := hv 1 (by decide)
    have v2 := hv 2 (by decide)
    have v3 := hv 3 (by decide)
    have v4 := hv 4 (by decide)
    have v5 := hv 5 (by decide)
    rw [Nat.add_zero] at v0
    rw [if_neg (by decide), if_neg (by omega)]
  · rw [nmv_7] at hw
    have v0 := hv 0 (by decide)
    have v1 := hv 1 (by decide)
    have v2 := hv 2 (by decide)
    have v3 := hv 3 (by decide)
    have v4 := hv 4 (by decide)
    have v5 := hv 5 (by decide)
    have v6 := hv 6 (by decide)
    rw [Nat.add_zero] at v0
    rw [if_neg (by decide), if_neg (by omega)]
theorem chk_4 (V : Nat → Nat) (s : Nat) : chk V s 4 3 0 = if V s = 99 then (if V (s + 1) = 111 then (if V (s + 2) = 103 then 1 else 0) else 0) else 0 := rfl
theorem wq_4 {V : Nat → Nat} {s l x : Nat} (hl : l < 8) (hv : ∀ j, j < l → 97 ≤ V (s + j) ∧ V (s + j) ≤ 122) (hw : x = nmv V l s 0) : (if l = 3 then chk V s 4 3 0 else 0) = if x = 6516583 then 1 else 0 := by
  rcases (show l = 0 ∨ l = 1 ∨ l = 2 ∨ l = 3 ∨ l = 4 ∨ l = 5 ∨ l = 6 ∨ l = 7 by omega) with rfl | rfl | rfl | rfl | rfl | rfl | rfl | rfl
  · rw [nmv_0] at hw
    rw [if_neg (by decide), if_neg (by omega)]
  · rw [nmv_1] at hw
    have v0 := hv 0 (by decide)
    rw [Nat.add_zero] at v0
    rw [if_neg (by decide), if_neg (by omega)]
  · rw [nmv_2] at hw
    have v0 := hv 0 (by decide)
    have v1 := hv 1 (by decide)
    rw [Nat.add_zero] at v0
    rw [if_neg (by decide), if_neg (by omega)]
  · rw [nmv_3] at hw
    have v0 := hv 0 (by decide)
    have v1 := hv 1 (by decide)
    have v2 := hv 2 (by decide)
    rw [Nat.add_zero] at v0
    rw [if_pos rfl, chk_4]
    by_cases c : x = 6516583
    · rw [if_pos c, if_pos (by omega), if_pos (by omega), if_pos (by omega)]
    · rw [if_neg c]
      by_cases c0 : V s = 99
      rotate_left
      · rw [if_neg c0]
      by_cases c1 : V (s + 1) = 111
      rotate_left
      · rw [if_pos c0, if_neg c1]
      by_cases c2 : V (s + 2) = 103
      rotate_left
      · rw [if_pos c0, if_pos c1, if_neg c2]
      omega
  · rw [nmv_4] at hw
    have v0 := hv 0 (by decide)
    have v1 := hv 1 (by decide)
    have v2 := hv 2 (by decide)
    have v3 := hv 3 (by decide)
    rw [Nat.add_zero] at v0
    rw [if_neg (by decide), if_neg (by omega)]
  · rw [nmv_5] at hw
    have v0 := hv 0 (by decide)
    have v1 := hv 1 (by decide)
    have v2 := hv 2 (by decide)
    have v3 := hv 3 (by decide)
    have v4 := hv 4 (by decide)
    rw [Nat.add_zero] at v0
    rw [if_neg (by decide), if_neg (by omega)]
  · rw [nmv_6] at hw
    have v0 := hv 0 (by decide)
    have v1 := hv 1 (by decide)
    have v2 := hv 2 (by decide)
    have v3 := hv 3 (by decide)
    have v4 := hv 4 (by decide)
    have v5 := hv 5 (by decide)
    rw [Nat.add_zero] at v0
    rw [if_neg (by decide), if_neg (by omega)]
  · rw [nmv_7] at hw
    have v0 := hv 0 (by decide)
    have v1 := hv 1 (by decide)
    have v2 := hv 2 (by decide)
    have v3 := hv 3 (by decide)
    have v4 := hv 4 (by decide)
    have v5 := hv 5 (by decide)
    have v6 := hv 6 (by decide)
    rw [Nat.add_zero] at v0
    rw [if_neg (by decide), if_neg (by omega)]
theorem chk_5 (V : Nat → Nat) (s : Nat) : chk V s 5 4 0 = if V s = 114 then (if V (s + 1) = 97 then (if V (s + 2) = 102 then (if V (s + 3) = 116 then 1 else 0) else 0) else 0) else 0 := rfl
theorem wq_5 {V : Nat → Nat} {s l x : Nat} (hl : l < 8) (hv : ∀ j, j < l → 97 ≤ V (s + j) ∧ V (s + j) ≤ 122) (hw : x = nmv V l s 0) : (if l = 4 then chk V s 5 4 0 else 0) = if x = 1918985844 then 1 else 0 := by
  rcases (show l = 0 ∨ l = 1 ∨ l = 2 ∨ l = 3 ∨ l = 4 ∨ l = 5 ∨ l = 6 ∨ l = 7 by omega) with rfl | rfl | rfl | rfl | rfl | rfl | rfl | rfl
  · rw [nmv_0] at hw
    rw [if_neg (by decide), if_neg (by omega)]
  · rw [nmv_1] at hw
    have v0 := hv 0 (by decide)
    rw [Nat.add_zero] at v0
    rw [if_neg (by decide), if_neg (by omega)]
  · rw [nmv_2] at hw
    have v0 := hv 0 (by decide)
    have v1 := hv 1 (by decide)
    rw [Nat.add_zero] at v0
    rw [if_neg (by decide), if_neg (by omega)]
  · rw [nmv_3] at hw
    have v0 := hv 0 (by decide)
    have v1 := hv 1 (by decide)
    have v2 := hv 2 (by decide)
    rw [Nat.add_zero] at v0
    rw [if_neg (by decide), if_neg (by omega)]
  · rw [nmv_4] at hw
    have v0 := hv 0 (by decide)
    have v1 := hv 1 (by decide)
    have v2 := hv 2 (by decide)
    have v3 := hv 3 (by decide)
    rw [Nat.add_zero] at v0
    rw [if_pos rfl, chk_5]
    by_cases c : x = 1918985844
    · rw [if_pos c, if_pos (by omega), if_pos (by omega), if_pos (by omega), if_pos (by omega)]
    · rw [if_neg c]
      by_cases c0 : V s = 114
      rotate_left
      · rw [if_neg c0]
      by_cases c1 : V (s + 1) = 97
      rotate_left
      · rw [if_pos c0, if_neg c1]
      by_cases c2 : V (s + 2) = 102
      rotate_left
      · rw [if_pos c0, if_pos c1, if_neg c2]
      by_cases c3 : V (s + 3) = 116
      rotate_left
      · rw [if_pos c0, if_pos c1, if_pos c2, if_neg c3]
      omega
  · rw [nmv_5] at hw
    have v0 := hv 0 (by decide)
    have v1 := hv 1 (by decide)
    have v2 := hv 2 (by decide)
    have v3 := hv 3 (by decide)
    have v4 := hv 4 (by decide)
    rw [Nat.add_zero] at v0
    rw [if_neg (by decide), if_neg (by omega)]
  · rw [nmv_6] at hw
    have v0 := hv 0 (by decide)
    have v1 := hv 1 (by decide)
    have v2 := hv 2 (by decide)
    have v3 := hv 3 (by decide)
    have v4 := hv 4 (by decide)
    have v5 := hv 5 (by decide)
    rw [Nat.add_zero] at v0
    rw [if_neg (by decide), if_neg (by omega)]
  · rw [nmv_7] at hw
    have v0 := hv 0 (by decide)
    have v1 := hv 1 (by decide)
    have v2 := hv 2 (by decide)
    have v3 := hv 3 (by decide)
    have v4 := hv 4 (by decide)
    have v5 := hv 5 (by decide)
    have v6 := hv 6 (by decide)
    rw [Nat.add_zero] at v0
    rw [if_neg (by decide), if_neg (by omega)]
theorem chk_6 (V : Nat → Nat) (s : Nat) : chk V s 6 4 0 = if V s = 99 then (if V (s + 1) = 97 then (if V (s + 2) = 114 then (if V (s + 3) = 116 then 1 else 0) else 0) else 0) else 0 := rfl
theorem wq_6 {V : Nat → Nat} {s l x : Nat} (hl : l < 8) (hv : ∀ j, j < l → 97 ≤ V (s + j) ∧ V (s + j) ≤ 122) (hw : x = nmv V l s 0) : (if l = 4 then chk V s 6 4 0 else 0) = if x = 1667330676 then 1 else 0 := by
  rcases (show l = 0 ∨ l = 1 ∨ l = 2 ∨ l = 3 ∨ l = 4 ∨ l = 5 ∨ l = 6 ∨ l = 7 by omega) with rfl | rfl | rfl | rfl | rfl | rfl | rfl | rfl
  · rw [nmv_0] at hw
    rw [if_neg (by decide), if_neg (by omega)]
  · rw [nmv_1] at hw
    have v0 := hv 0 (by decide)
    rw [Nat.add_zero] at v0
    rw [if_neg (by decide), if_neg (by omega)]
  · rw [nmv_2] at hw
    have v0 := hv 0 (by decide)
    have v1 := hv 1 (by decide)
    rw [Nat.add_zero] at v0
    rw [if_neg (by decide), if_neg (by omega)]
  · rw [nmv_3] at hw
    have v0 := hv 0 (by decide)
    have v1 := hv 1 (by decide)
    have v2 := hv 2 (by decide)
    rw [Nat.add_zero] at v0
    rw [if_neg (by decide), if_neg (by omega)]
  · rw [nmv_4] at hw
    have v0 := hv 0 (by decide)
    have v1 := hv 1 (by decide)
    have v2 := hv 2 (by decide)
    have v3 := hv 3 (by decide)
    rw [Nat.add_zero] at v0
    rw [if_pos rfl, chk_6]
    by_cases c : x = 1667330676
    · rw [if_pos c, if_pos (by omega), if_pos (by omega), if_pos (by omega), if_pos (by omega)]
    · rw [if_neg c]
      by_cases c0 : V s = 99
      rotate_left
      · rw [if_neg c0]
      by_cases c1 : V (s + 1) = 97
      rotate_left
      · rw [if_pos c0, if_neg c1]
      by_cases c2 : V (s + 2) = 114
      rotate_left
      · rw [if_pos c0, if_pos c1, if_neg c2]
      by_cases c3 : V (s + 3) = 116
      rotate_left
      · rw [if_pos c0, if_pos c1, if_pos c2, if_neg c3]
      omega
  · rw [nmv_5] at hw
    have v0 := hv 0 (by decide)
    have v1 := hv 1 (by decide)
    have v2 := hv 2 (by decide)
    have v3 := hv 3 (by decide)
    have v4 := hv 4 (by decide)
    rw [Nat.add_zero] at v0
    rw [if_neg (by decide), if_neg (by omega)]
  · rw [nmv_6] at hw
    have v0 := hv 0 (by decide)
    have v1 := hv 1 (by decide)
    have v2 := hv 2 (by decide)
    have v3 := hv 3 (by decide)
    have v4 := hv 4 (by decide)
    have v5 := hv 5 (by decide)
    rw [Nat.add_zero] at v0
    rw [if_neg (by decide), if_neg (by omega)]
  · rw [nmv_7] at hw
    have v0 := hv 0 (by decide)
    have v1 := hv 1 (by decide)
    have v2 := hv 2 (by decide)
    have v3 := hv 3 (by decide)
    have v4 := hv 4 (by decide)
    have v5 := hv 5 (by decide)
    have v6 := hv 6 (by decide)
    rw [Nat.add_zero] at v0
    rw [if_neg (by decide), if_neg (by omega)]
theorem chk_7 (V : Nat → Nat) (s : Nat) : chk V s 7 4 0 = if V s = 119 then (if V (s + 1) = 97 then (if V (s + 2) = 105 then (if V (s + 3) = 110 then 1 else 0) else 0) else 0) else 0 := rfl
theorem wq_7 {V : Nat → Nat} {s l x : Nat} (hl : l < 8) (hv : ∀ j, j < l → 97 ≤ V (s + j) ∧ V (s + j) ≤ 122) (hw : x = nmv V l s 0) : (if l = 4 then chk V s 7 4 0 else 0) = if x = 2002872686 then 1 else 0 := by
  rcases (show l = 0 ∨ l = 1 ∨ l = 2 ∨ l = 3 ∨ l = 4 ∨ l = 5 ∨ l = 6 ∨ l = 7 by omega) with rfl | rfl | rfl | rfl | rfl | rfl | rfl | rfl
  · rw [nmv_0] at hw
    rw [if_neg (by decide), if_neg (by omega)]
  · rw [nmv_1] at hw
    have v0 := hv 0 (by decide)
    rw [Nat.add_zero] at v0
    rw [if_neg (by decide), if_neg (by omega)]
  · rw [nmv_2] at hw
    have v0 := hv 0 (by decide)
    have v1 := hv 1 (by decide)
    rw [Nat.add_zero] at v0
    rw [if_neg (by decide), if_neg (by omega)]
  · rw [nmv_3] at hw
    have v0 := hv 0 (by decide)
    have v1 := hv 1 (by decide)
    have v2 := hv 2 (by decide)
    rw [Nat.add_zero] at v0
    rw [if_neg (by decide), if_neg (by omega)]
  · rw [nmv_4] at hw
    have v0 := hv 0 (by decide)
    have v1 := hv 1 (by decide)
    have v2 := hv 2 (by decide)
    have v3 := hv 3 (by decide)
    rw [Nat.add_zero] at v0
    rw [if_pos rfl, chk_7]
    by_cases c : x = 2002872686
    · rw [if_pos c, if_pos (by omega), if_pos (by omega), if_pos (by omega), if_pos (by omega)]
    · rw [if_neg c]
      by_cases c0 : V s = 119
      rotate_left
      · rw [if_neg c0]
      by_cases c1 : V (s + 1) = 97
      rotate_left
      · rw [if_pos c0, if_neg c1]
      by_cases c2 : V (s + 2) = 105
      rotate_left
      · rw [if_pos c0, if_pos c1, if_neg c2]
      by_cases c3 : V (s + 3) = 110
      rotate_left
      · rw [if_pos c0, if_pos c1, if_pos c2, if_neg c3]
      omega
  · rw [nmv_5] at hw
    have v0 := hv 0 (by decide)
    have v1 := hv 1 (by decide)
    have v2 := hv 2 (by decide)
    have v3 := hv 3 (by decide)
    have v4 := hv 4 (by decide)
    rw [Nat.add_zero] at v0
    rw [if_neg (by decide), if_neg (by omega)]
  · rw [nmv_6] at hw
    have v0 := hv 0 (by decide)
    have v1 := hv 1 (by decide)
    have v2 := hv 2 (by decide)
    have v3 := hv 3 (by decide)
    have v4 := hv 4 (by decide)
    have v5 := hv 5 (by decide)
    rw [Nat.add_zero] at v0
    rw [if_neg (by decide), if_neg (by omega)]
  · rw [nmv_7] at hw
    have v0 := hv 0 (by decide)
    have v1 := hv 1 (by decide)
    have v2 := hv 2 (by decide)
    have v3 := hv 3 (by decide)
    have v4 := hv 4 (by decide)
    have v5 := hv 5 (by decide)
    have v6 := hv 6 (by decide)
    rw [Nat.add_zero] at v0
    rw [if_neg (by decide), if_neg (by omega)]
theorem wq {V : Nat → Nat} {s l x : Nat} (hl : l < 8) (hv : ∀ j, j < l → 97 ≤ V (s + j) ∧ V (s + j) ≤ 122) (hw : x = nmv V l s 0) {r : Nat} (hr : r < 8) : (if l = wl r then chk V s r (wl r) 0 else 0) = if x = CW r then 1 else 0 := by
  rcases (show r = 0 ∨ r = 1 ∨ r = 2 ∨ r = 3 ∨ r = 4 ∨ r = 5 ∨ r = 6 ∨ r = 7 by omega) with rfl | rfl | rfl | rfl | rfl | rfl | rfl | rfl
  · exact wq_0 hl hv hw
  · exact wq_1 hl hv hw
  · exact wq_2 hl hv hw
  · exact wq_3 hl hv hw
  · exact wq_4 hl hv hw
  · exact wq_5 hl hv hw
  · exact wq_6 hl hv hw
  · exact wq_7 hl hv hw
theorem wl_le {r : Nat} (hr : r < 8) : 3 ≤ wl r ∧ wl r ≤ 5 := by
  rcases (show r = 0 ∨ r = 1 ∨ r = 2 ∨ r = 3 ∨ r = 4 ∨ r = 5 ∨ r = 6 ∨ r = 7 by omega) with rfl | rfl | rfl | rfl | rfl | rfl | rfl | rfl <;> decide
theorem CW_ne {r : Nat} (hr : r < 8) : 0 ≠ CW r := by
  rcases (show r = 0 ∨ r = 1 ∨ r = 2 ∨ r = 3 ∨ r = 4 ∨ r = 5 ∨ r = 6 ∨ r = 7 by omega) with rfl | rfl | rfl | rfl | rfl | rfl | rfl | rfl <;> decide
theorem so_1 {v : Nat} (h : so v = 1) : 97 ≤ v ∧ v ≤ 122 := by
  unfold so at h
  by_cases c : 97 ≤ v ∧ v ≤ 122
  · exact c
  · rw [if_neg c] at h
    by_cases c2 : 48 ≤ v ∧ v ≤ 57
    · rw [if_pos c2] at h; exact absurd h (by decide)
    · rw [if_neg c2] at h
      by_cases c3 : v = 59
      · rw [if_pos c3] at h; exact absurd h (by decide)
      · rw [if_neg c3] at h; exact absurd h (by decide)
theorem wc_lt {r : Nat} (hr : r < 8) {i : Nat} (hi : i < wl r) : wc r i < 256 := by
  have : ∀ r, r < 8 → ∀ i, i < 5 → wc r i < 256 := by decide +kernel
  have := wl_le hr
  exact (by assumption : ∀ r, r < 8 → ∀ i, i < 5 → wc r i < 256) r hr i (by omega)
theorem x_wordLoop {h : AH} {n : Nat} {V : Nat → Nat} (hT : XT h n V) {s e r : Nat} (hr : r < 8) (h3 : h 5 3 = nI s) (he : e ≤ n) (hs : s + wl r = e) (hl : ∀ j, s ≤ j → j < e → so (V j) = 1) : ∀ (k fuel i : Nat), i + k = wl r → k < fuel → f_X6_isWord_28 5 r fuel (nI i) h = some (nI (chk V s r k i), h) := by
  obtain ⟨hn, h1, h6⟩ := hT
  have hwl := wl_le hr
  intro k
  induction k with
  | zero =>
    intro fuel i hi hf
    obtain ⟨f, rfl⟩ : ∃ f, fuel = f + 1 := ⟨fuel - 1, by omega⟩
    rw [f_X6_isWord_28, x_len hr, bd_s, if_pos (nI_le (by omega) (by omega))]
    rfl
  | succ k ih =>
    intro fuel i hi hf
    obtain ⟨f, rfl⟩ : ∃ f, fuel = f + 1 := ⟨fuel - 1, by omega⟩
    have hb := h6 (s + i) (by omega)
    have hso := hl (s + i) (by omega) (by omega)
    rw [f_X6_isWord_28, x_len hr, bd_s, if_neg (nI_ge (by omega) (by omega)), h3, nI_add, lt_s2, ck_nI _ (by omega) (by decide), cl_nI (by omega), x_chr hr (by omega), bd_s, show h (5 + 1) (s + i) = sb (V (s + i)) from hb.2, sb_n _ hb.1 (by omega)]
    unfold chk
    by_cases c : V (s + i) = wc r i
    · rw [if_pos (by rw [c]), if_pos c, lt_s2, nI_1]
      exact ih f (i + 1) (by omega) (by omega)
    · have := wc_lt hr (i := i) (by omega)
      rw [if_neg (fun z => c ((nI_eq (by omega) (by omega)).mp z)), if_neg c]
      rfl
theorem lN_so {x v : Nat} (hx : x < 2 ^ 48) (hv : v < 256) : (lN x <<< ((8 : Int32).toInt64 &&& 63)) ||| (nI v).toInt64 = lN (x * 256 + v) := by
  rw [nI_l (by omega), show ((8 : Int32).toInt64 &&& 63) = 8 by decide]
  apply Int64.toBitVec_inj.mp
  rw [Int64.toBitVec_or, Int64.toBitVec_shiftLeft, show ((8 : Int64).toBitVec.smod 64) = BitVec.ofNat 64 8 by decide]
  apply BitVec.eq_of_toNat_eq
  show ((BitVec.ofNat 64 x) <<< (BitVec.ofNat 64 8) ||| BitVec.ofNat 64 v).toNat = (BitVec.ofNat 64 (x * 256 + v)).toNat
  rw [BitVec.toNat_or, BitVec.shiftLeft_eq', BitVec.toNat_shiftLeft, BitVec.toNat_ofNat, BitVec.toNat_ofNat, BitVec.toNat_ofNat, BitVec.toNat_ofNat, Nat.mod_eq_of_lt (show 8 < 2 ^ 64 by decide), Nat.mod_eq_of_lt (show x < 2 ^ 64 by omega), Nat.mod_eq_of_lt (show v < 2 ^ 64 by omega), Nat.mod_eq_of_lt (show x <<< 8 < 2 ^ 64 by rw [Nat.shiftLeft_eq]; omega), ← Nat.shiftLeft_add_eq_or_of_lt (by omega), Nat.shiftLeft_eq, Nat.mod_eq_of_lt (by omega)]
theorem m_nameLoop {h : AH} {n : Nat} {V : Nat → Nat} (hT : MT h n V) {s e : Nat} (h16 : h 0 16 = nI s) (h17 : h 0 17 = nI e) (h15 : h 0 15 = nI 2) (h18 : h 0 18 = 0) (hse : s ≤ e) (he : e ≤ n) (h8 : e - s < 8) : ∀ (k fuel p x : Nat), p + k = e → k < fuel → (x + 1) * 256 ^ k ≤ 256 ^ 7 → f_X8_name_7 0 fuel (lN x) (nI p) h = some (lN (nmv V k p x), h) := by
  have hn := hT.1
  intro k
  induction k with
  | zero =>
    intro fuel p x hp hf hx
    obtain ⟨f, rfl⟩ : ∃ f, fuel = f + 1 := ⟨fuel - 1, by omega⟩
    rw [f_X8_name_7, h17, if_pos (nI_le (by omega) (by omega))]
    unfold f_X8_name_56
    rw [h18, if_pos rfl]
    rfl
  | succ k ih =>
    intro fuel p x hp hf hx
    obtain ⟨f, rfl⟩ : ∃ f, fuel = f + 1 := ⟨fuel - 1, by omega⟩
    have hb := hT.2.2 p (by omega)
    have hk : 0 < 256 ^ k := Nat.pow_pos (by decide)
    have e1 : (x + 1) * 256 ^ (k + 1) = (x + 1) * 256 * 256 ^ k := by rw [Nat.pow_succ, Nat.mul_comm (256 ^ k) 256, Nat.mul_assoc]
    have h1 : (x + 1) * 256 ≤ (x + 1) * 256 * 256 ^ k := Nat.le_mul_of_pos_right _ hk
    have h2 : (x * 256 + V p + 1) * 256 ^ k ≤ (x + 1) * 256 * 256 ^ k := Nat.mul_le_mul_right _ (by omega)
    have h3 : (x + 1) * 256 ≤ 2 ^ 56 := by
      have : (256 : Nat) ^ 7 = 2 ^ 56 := by decide
      omega
    rw [f_X8_name_7, h17, if_neg (nI_ge (by omega) (by omega)), h15, if_pos (show nI 2 = 2 from rfl), h16, pk_sub hse, if_neg (show ¬ (8 : Int32) ≤ nI (e - s) from nI_ge (b := 8) h8 (by decide)), ck_nI _ (by omega) (by decide), cl_nI (by omega), show h (0 + 7) p = nI (V p) from hb.2, lN_so (by omega) hb.1, lt_s2, lt_s2, nI_1]
    exact ih f (p + 1) (x * 256 + V p) (by omega) (by omega) (by omega)
-- both sides while a text is read
def PP (hx hm : AH) (n : Nat) (V : Nat → Nat) (s e k : Nat) : Prop := XT hx n V ∧ MT hm n V ∧ TF V n s e k ∧ hx 5 3 = nI s ∧ hx 5 4 = nI e ∧ hx 5 2 = nI k ∧ hm 0 16 = nI s ∧ hm 0 14 = nI e ∧ hm 0 15 = nI (mk5 k) ∧ hm 0 17 = nI e ∧ hm 0 18 = 0
theorem PP_congr {hx hm hx2 hm2 : AH} {n : Nat} {V : Nat → Nat} {s e k : Nat} (hP : PP hx hm n V s e k) (x5 : hx2 5 = hx 5) (x6 : hx2 6 = hx 6) (m0 : hm2 0 = hm 0) (m7 : hm2 7 = hm 7) : PP hx2 hm2 n V s e k := by
  unfold PP XT MT at *
  rw [x5, x6, m0, m7]
  exact hP
theorem mk5_eq {k : Nat} (hk : k ≤ 4) : (mk5 k = 2 ↔ k = 1) ∧ (mk5 k = 3 ↔ k = 2) ∧ (mk5 k = 4 ↔ k = 3) ∧ (mk5 k = 1 ↔ k = 4) ∧ mk5 k ≤ 4 := by
  rcases (show k = 0 ∨ k = 1 ∨ k = 2 ∨ k = 3 ∨ k = 4 by omega) with rfl | rfl | rfl | rfl | rfl <;> decide
theorem jw {hx hm : AH} {n : Nat} {V : Nat → Nat} {s e k : Nat} (hP : PP hx hm n V s e k) : ∃ x : Nat, x < 2 ^ 56 ∧ f_X8_name 0 hm = some (lN x, hm) ∧ ∀ r, r < 8 → f_X6_isWord 5 r hx = some (nI (if x = CW r then 1 else 0), hx) := by
  obtain ⟨hX, hM, hF, x3, x4, x2, m16, m14, m15, m17, m18⟩ := hP
  have hn := hX.1
  have hmk := mk5_eq hF.2.2.1
  have hse := hF.1
  have hen := hF.2.1
  have hk4 := hF.2.2.1
  obtain ⟨f, hf⟩ := fu_s 1 (by decide)
  have n56 : ∀ y, f_X8_name_56 0 y hm = some (y, hm) := fun y => by unfold f_X8_name_56; rw [m18, if_pos rfl]
  by_cases c : k = 1
  · have hl : ∀ j, s ≤ j → j < e → so (V j) = 1 := fun j h1 h2 => by rw [hF.2.2.2.1 (Or.inl c) j h1 h2, c]
    have m15' : hm 0 15 = nI 2 := by rw [m15, hmk.1.mpr c]
    by_cases c8 : e - s < 8
    · refine ⟨nmv V (e - s) s 0, ?_, ?_, fun r hr => ?_⟩
      · have hv : ∀ j, j < e - s → 97 ≤ V (s + j) ∧ V (s + j) ≤ 122 := fun j hj => so_1 (hl _ (by omega) (by omega))
        generalize e - s = l at c8 hv
        rcases (show l = 0 ∨ l = 1 ∨ l = 2 ∨ l = 3 ∨ l = 4 ∨ l = 5 ∨ l = 6 ∨ l = 7 by omega) with rfl | rfl | rfl | rfl | rfl | rfl | rfl | rfl
        · rw [nmv_0]; decide
        · rw [nmv_1]; have v0 := hv 0 (by decide); rw [Nat.add_zero] at v0; omega
        · rw [nmv_2]; have v0 := hv 0 (by decide); have v1 := hv 1 (by decide); rw [Nat.add_zero] at v0; omega
        · rw [nmv_3]; have v0 := hv 0 (by decide); have v1 := hv 1 (by decide); have v2 := hv 2 (by decide); rw [Nat.add_zero] at v0; omega
        · rw [nmv_4]; have v0 := hv 0 (by decide); have v1 := hv 1 (by decide); have v2 := hv 2 (by decide); have v3 := hv 3 (by decide); rw [Nat.add_zero] at v0; omega
        · rw [nmv_5]; have v0 := hv 0 (by decide); have v1 := hv 1 (by decide); have v2 := hv 2 (by decide); have v3 := hv 3 (by decide); have v4 := hv 4 (by decide); rw [Nat.add_zero] at v0; omega
        · rw [nmv_6]; have v0 := hv 0 (by decide); have v1 := hv 1 (by decide); have v2 := hv 2 (by decide); have v3 := hv 3 (by decide); have v4 := hv 4 (by decide); have v5 := hv 5 (by decide); rw [Nat.add_zero] at v0; omega
        · rw [nmv_7]; have v0 := hv 0 (by decide); have v1 := hv 1 (by decide); have v2 := hv 2 (by decide); have v3 := hv 3 (by decide); have v4 := hv 4 (by decide); have v5 := hv 5 (by decide); have v6 := hv 6 (by decide); rw [Nat.add_zero] at v0; omega
      · unfold f_X8_name
        rw [m16, lt_s2, show (0 : Int64) = lN 0 from rfl]
        refine m_nameLoop hM m16 m17 m15' m18 hse hen c8 (e - s) fu s 0 (by omega) (fu_ge _ (by omega)) ?_
        rw [Nat.zero_add, Nat.one_mul]
        exact Nat.pow_le_pow_right (by decide) (by omega)
      · have hv : ∀ j, j < e - s → 97 ≤ V (s + j) ∧ V (s + j) ≤ 122 := fun j hj => so_1 (hl _ (by omega) (by omega))
        rw [← wq c8 hv rfl hr]
        have hwl := wl_le hr
        unfold f_X6_isWord
        rw [x2, c, if_pos (show nI 1 = 1 from rfl), x_len hr, bd_s, x3, x4, pk_sub hse]
        by_cases cl : e - s = wl r
        · rw [if_pos (by rw [cl]), if_pos cl, show (0 : Int32) = nI 0 from rfl]
          exact x_wordLoop hX hr x3 hen (by omega) hl (wl r) fu 0 (by omega) (fu_ge _ (by omega))
        · rw [if_neg (fun z => cl ((nI_eq (by omega) (by omega)).mp z)), if_neg cl]
          rfl
    · refine ⟨0, by decide, ?_, fun r hr => ?_⟩
      · unfold f_X8_name
        rw [m16, lt_s2, hf, f_X8_name_7, m17, if_neg (nI_ge (by omega) (by omega)), m15', if_pos (show nI 2 = 2 from rfl), m16, pk_sub hse, if_pos (show (8 : Int32) ≤ nI (e - s) from nI_le (a := 8) (by omega) (by omega)), n56]
        rfl
      · have hwl := wl_le hr
        unfold f_X6_isWord
        rw [x2, c, if_pos (show nI 1 = 1 from rfl), x_len hr, bd_s, x3, x4, pk_sub hse, if_neg (fun z => by have := (nI_eq (by omega) (by omega)).mp z; omega), if_neg (CW_ne hr)]
        rfl
  · refine ⟨0, by decide, ?_, fun r hr => ?_⟩
    · unfold f_X8_name
      rw [m16, lt_s2, hf, f_X8_name_7, m15, if_neg (show ¬ nI (mk5 k) = 2 from fun z => c (hmk.1.mp ((nI_eq (by omega) (by decide)).mp z))), n56, ite_self]
      rfl
    · unfold f_X6_isWord
      rw [x2, if_neg (show ¬ nI k = 1 from fun z => c ((nI_eq (by omega) (by decide)).mp z)), if_neg (CW_ne hr)]
      rfl
theorem lg_e0 (x y : Int64) : (lg_cmp x y = 0) ↔ x = y := by
  unfold lg_cmp
  split
  · next h => exact ⟨fun q => absurd q (by decide), fun q => by rw [q] at h; exact (Int64.lt_irrefl h).elim⟩
  · split
    · next h => exact ⟨fun _ => h, fun _ => rfl⟩
    · next h => exact ⟨fun q => absurd q (by decide), fun q => absurd q h⟩
theorem lN_inj {a b : Nat} (ha : a < 2 ^ 56) (hb : b < 2 ^ 56) : lN a = lN b ↔ a = b := by
  refine ⟨fun z => ?_, fun z => by rw [z]⟩
  have h1 : (lN a).toInt = (a : Int) := Int64.toInt_ofNat_of_lt (by omega)
  have h2 : (lN b).toInt = (b : Int) := Int64.toInt_ofNat_of_lt (by omega)
  rw [z, h2] at h1
  omega
theorem lg_w {x y : Nat} (hx : x < 2 ^ 56) (hy : y < 2 ^ 56) : (lg_cmp (lN x) (lN y) = 0) = (x = y) := propext ((lg_e0 _ _).trans (lN_inj hx hy))
