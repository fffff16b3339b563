-- ask
def TX (h : AH) (n : Nat) (f : Nat → Int32) : AH := hset (hput h 59 f) 58 1 (nI n)
def TM (h : AH) (n : Nat) (f : Nat → Int32) : AH := hset (hput h 18 f) 0 33 (nI n)
theorem TX_c (h : AH) (n : Nat) (f : Nat → Int32) {c : Nat} (h1 : c ≠ 58) (h2 : c ≠ 59) : TX h n f c = h c := by
  unfold TX
  rw [hs_cell _ _ _ _ _ h1, hput_ne _ _ h2]
theorem TM_c (h : AH) (n : Nat) (f : Nat → Int32) {c : Nat} (h1 : c ≠ 0) (h2 : c ≠ 18) : TM h n f c = h c := by
  unfold TM
  rw [hs_cell _ _ _ _ _ h1, hput_ne _ _ h2]
theorem hs2 (h : AH) {r c : Nat} (k n : Nat) (f : Nat → Int32) (v u b : Int32) (hrc : r ≠ c) : hset (hset (hset (hput h r f) c k v) r n b) c k u = hset (hput h r (upd f n b)) c k u := by
  funext a
  by_cases e : a = c
  · subst e
    rw [hs_row, hs_row, hs_cell _ _ _ _ _ (fun z => hrc z.symm), hput_ne _ _ (fun z => hrc z.symm), hs_row, hput_ne _ _ (fun z => hrc z.symm)]
    funext j
    unfold upd
    by_cases c2 : j = k
    · rw [if_pos c2, if_pos c2]
    · rw [if_neg c2, if_neg c2, if_neg c2]
  · rw [hs_cell _ _ _ _ _ e, hs_cell _ _ _ _ _ e]
    by_cases e2 : a = r
    · subst e2
      rw [hs_row, hs_cell _ _ _ _ _ e, hput_self, hput_self]
    · rw [hs_cell _ _ _ _ _ e2, hs_cell _ _ _ _ _ e, hput_ne _ _ e2, hput_ne _ _ e2]
theorem x_leave (h : AH) {n : Nat} (hn : n < 16) (f : Nat → Int32) (b : Int32) : f_X1_leaveTrace 58 b (TX h n f) = some ((), TX h (n + 1) (upd f n b)) := by
  have e : (TX h n f) 58 1 = nI n := by unfold TX; rw [hs_self]
  unfold f_X1_leaveTrace
  rw [e, if_neg (show ¬ (16 : Int32) ≤ nI n from nI_ge (b := 16) hn (by decide)), lt_s2, ck_nI _ hn (by decide), cl_nI (by omega), lt_s2, hs_cell _ _ _ _ 58 (by decide), e, nI_1, lt_s2]
  unfold TX
  rw [hs2 _ _ _ _ _ _ _ (by decide)]
theorem m_began (h : AH) {n : Nat} (hn : n < 16) (f : Nat → Int32) (b : Int32) : f_X8_began 0 b (TM h n f) = some ((), TM h (n + 1) (upd f n b)) := by
  have e : (TM h n f) 0 33 = nI n := by unfold TM; rw [hs_self]
  unfold f_X8_began
  rw [e, if_neg (show ¬ (16 : Int32) ≤ nI n from nI_ge (b := 16) hn (by decide)), lt_s2, ck_nI _ hn (by decide), cl_nI (by omega), lt_s2, hs_cell _ _ _ _ 0 (by decide), e, nI_1, lt_s2]
  unfold TM
  rw [hs2 _ _ _ _ _ _ _ (by decide)]
theorem CQ_T {h : AH} {σ : Sg} (hC : CQ h 17 σ) (n : Nat) (f : Nat → Int32) : CQ (TX h n f) 17 σ := by
  unfold CQ at hC ⊢
  rw [TX_c _ _ _ (c := 17) (by decide) (by decide), TX_c _ _ _ (c := 17 + 1) (by decide) (by decide), TX_c _ _ _ (c := 17 + 2) (by decide) (by decide), TX_c _ _ _ (c := 17 + 3) (by decide) (by decide), TX_c _ _ _ (c := 17 + 4) (by decide) (by decide), TX_c _ _ _ (c := 17 + 5) (by decide) (by decide), TX_c _ _ _ (c := 17 + 6) (by decide) (by decide), TX_c _ _ _ (c := 17 + 7) (by decide) (by decide), TX_c _ _ _ (c := 17 + 8) (by decide) (by decide)]
  exact hC
theorem MR_T {h : AH} {σ : Sg} (hM : MR (h 4) σ) (n : Nat) (f : Nat → Int32) : MR (TM h n f 4) σ := by
  rw [TM_c _ _ _ (by decide) (by decide)]
  exact hM
theorem g_in {h : AH} {σ : Sg} (hC : CQ h 17 σ) (w : WFs σ) {b : Nat} (hb : b < σ 0 1) (k d n : Nat) (f : Nat → Int32) (hd : d ≤ 12) (hn : n < 16) (v : Int32) {r : Int32} {H : AH} (hK : (fun h_1 : AH => (if v = 10 then (bd (f_X2_allOf 17 (nI b) h_1) (fun v_7 h_6 => some (v_7, h_6))) else (if v = 11 then (bd (f_X1_gives k 58 10 17 (nI b) (nI (d + 1)) h_1) (fun v_9 h_8 => bd (f_X1_bodyFor 1 (nI (σ 7 b)) h_8) (fun v_11 h_10 => bd (f_X1_gives k 58 v_11 17 (nI b) (nI (d + 1)) h_10) (fun v_13 h_12 => some ((v_9 + v_13), h_12))))) else (if v = 12 then (bd (f_X1_gives k 58 11 17 (nI b) (nI (d + 1)) h_1) (fun v_15 h_14 => some ((0 - v_15), h_14))) else (if v = 13 then (bd (f_X1_gives k 58 10 17 (nI b) (nI (d + 1)) h_1) (fun v_17 h_16 => some ((v_17 - 100), h_16))) else (if v = 14 then (bd (f_X1_gives k 58 13 17 (nI b) (nI (d + 1)) h_1) (fun v_19 h_18 => some ((2 * v_19), h_18))) else (if v = 15 then (some (0, h_1)) else (if v = 16 then (some (0, h_1)) else (if v = 17 then (some (0, h_1)) else (if v = 18 then (some (0, h_1)) else (if v = 19 then (some (0, h_1)) else (if v = 20 then (some (nI b, h_1)) else (if v = 21 then (bd (f_X1_gives k 58 20 17 (nI b) (nI (d + 1)) h_1) (fun v_21 h_20 => ck (nI b) 6 (some ((v_21 + (h_20 (17 + 6) (nI b : Int32).toNatClampNeg)), h_20)))) else (if v = 22 then (bd (f_X1_gives k 58 21 17 (nI b) (nI (d + 1)) h_1) (fun v_24 h_23 => some ((v_24 - 1000), h_23))) else (if v = 23 then (bd (f_X1_gives k 58 20 17 (nI b) (nI (d + 1)) h_1) (fun v_26 h_25 => bd (f_X1_bodyFor 0 (nI (σ 7 b)) h_25) (fun v_28 h_27 => bd (f_X1_gives k 58 v_28 17 (nI b) (nI (d + 1)) h_27) (fun v_30 h_29 => some ((v_26 - v_30), h_29))))) else (if v = 24 then (bd (f_X1_gives k 58 21 17 (nI b) (nI (d + 1)) h_1) (fun v_32 h_31 => some ((2 * v_32), h_31))) else (some (0, h_1)))))))))))))))))) (TX h (n + 1) (upd f n v)) = some (r, H)) : f_X1_gives (k + 1) 58 v 17 (nI b) (nI d) (TX h n f) = some (r, H) := by
  have h6 := w.2.1
  have e5 : (TX h (n + 1) (upd f n v)) (17 + 5) b = nI (σ 7 b) := by
    rw [TX_c _ _ _ (by decide) (by decide)]
    exact (hC.2.2.2.2.2.2.2.2.2.1 b hb).1
  rw [f_X1_gives]
  unfold f_X1_gives_b
  rw [if_pos (show nI d ≤ 12 from nI_le (b := 12) hd (by decide)), x_leave h hn, bd_s, nI_1, lt_s2, ck_nI _ (by omega) (by decide), cl_nI (by omega), e5, lt_s2]
  rw [cl_nI (by omega)] at hK
  exact hK
theorem g10 {h : AH} {σ : Sg} (hC : CQ h 17 σ) (w : WFs σ) {b : Nat} (hb : b < σ 0 1) (k d n : Nat) (f : Nat → Int32) (hd : d ≤ 12) (hn : n < 16) : f_X1_gives (k + 1) 58 10 17 (nI b) (nI d) (TX h n f) = some (nI (al σ b), TX h (n + 1) (upd f n 10)) := by
  refine g_in hC w hb k d n f hd hn 10 ?_
  show (if _ then _ else _) = _
  rw [if_pos (show (10 : Int32) = 10 from rfl), x_allOf (CQ_T hC _ _) w hb, bd_s]
theorem g20 {h : AH} {σ : Sg} (hC : CQ h 17 σ) (w : WFs σ) {b : Nat} (hb : b < σ 0 1) (k d n : Nat) (f : Nat → Int32) (hd : d ≤ 12) (hn : n < 16) : f_X1_gives (k + 1) 58 20 17 (nI b) (nI d) (TX h n f) = some (nI b, TX h (n + 1) (upd f n 20)) := by
  refine g_in hC w hb k d n f hd hn 20 ?_
  show (if _ then _ else _) = _
  rw [if_neg (show ¬ (20 : Int32) = 10 by decide), if_neg (show ¬ (20 : Int32) = 11 by decide), if_neg (show ¬ (20 : Int32) = 12 by decide), if_neg (show ¬ (20 : Int32) = 13 by decide), if_neg (show ¬ (20 : Int32) = 14 by decide), if_neg (show ¬ (20 : Int32) = 15 by decide), if_neg (show ¬ (20 : Int32) = 16 by decide), if_neg (show ¬ (20 : Int32) = 17 by decide), if_neg (show ¬ (20 : Int32) = 18 by decide), if_neg (show ¬ (20 : Int32) = 19 by decide), if_pos (show (20 : Int32) = 20 from rfl)]
theorem g13 {h : AH} {σ : Sg} (hC : CQ h 17 σ) (w : WFs σ) {b : Nat} (hb : b < σ 0 1) (k d n : Nat) (f : Nat → Int32) (hd : d < 12) (hn : n < 15) : f_X1_gives (k + 2) 58 13 17 (nI b) (nI d) (TX h n f) = some (nI (al σ b) - 100, TX h (n + 2) (upd (upd f n 13) (n + 1) 10)) := by
  refine g_in hC w hb (k + 1) d n f (by omega) (by omega) 13 ?_
  show (if _ then _ else _) = _
  rw [if_neg (show ¬ (13 : Int32) = 10 by decide), if_neg (show ¬ (13 : Int32) = 11 by decide), if_neg (show ¬ (13 : Int32) = 12 by decide), if_pos (show (13 : Int32) = 13 from rfl), g10 hC w hb _ _ _ _ (by omega) (by omega), bd_s]
theorem g14 {h : AH} {σ : Sg} (hC : CQ h 17 σ) (w : WFs σ) {b : Nat} (hb : b < σ 0 1) (k d n : Nat) (f : Nat → Int32) (hd : d < 11) (hn : n < 14) : f_X1_gives (k + 3) 58 14 17 (nI b) (nI d) (TX h n f) = some (2 * (nI (al σ b) - 100), TX h (n + 3) (upd (upd (upd f n 14) (n + 1) 13) (n + 2) 10)) := by
  refine g_in hC w hb (k + 2) d n f (by omega) (by omega) 14 ?_
  show (if _ then _ else _) = _
  rw [if_neg (show ¬ (14 : Int32) = 10 by decide), if_neg (show ¬ (14 : Int32) = 11 by decide), if_neg (show ¬ (14 : Int32) = 12 by decide), if_neg (show ¬ (14 : Int32) = 13 by decide), if_pos (show (14 : Int32) = 14 from rfl), g13 hC w hb _ _ _ _ (by omega) (by omega), bd_s]
theorem g21 {h : AH} {σ : Sg} (hC : CQ h 17 σ) (w : WFs σ) {b : Nat} (hb : b < σ 0 1) (k d n : Nat) (f : Nat → Int32) (hd : d < 12) (hn : n < 15) : f_X1_gives (k + 2) 58 21 17 (nI b) (nI d) (TX h n f) = some (nI b + nI (σ 8 b), TX h (n + 2) (upd (upd f n 21) (n + 1) 20)) := by
  have h6 := w.2.1
  refine g_in hC w hb (k + 1) d n f (by omega) (by omega) 21 ?_
  show (if _ then _ else _) = _
  rw [if_neg (show ¬ (21 : Int32) = 10 by decide), if_neg (show ¬ (21 : Int32) = 11 by decide), if_neg (show ¬ (21 : Int32) = 12 by decide), if_neg (show ¬ (21 : Int32) = 13 by decide), if_neg (show ¬ (21 : Int32) = 14 by decide), if_neg (show ¬ (21 : Int32) = 15 by decide), if_neg (show ¬ (21 : Int32) = 16 by decide), if_neg (show ¬ (21 : Int32) = 17 by decide), if_neg (show ¬ (21 : Int32) = 18 by decide), if_neg (show ¬ (21 : Int32) = 19 by decide), if_neg (show ¬ (21 : Int32) = 20 by decide), if_pos (show (21 : Int32) = 21 from rfl), g20 hC w hb _ _ _ _ (by omega) (by omega), bd_s, ck_nI _ (by omega) (by decide), cl_nI (by omega), TX_c _ _ _ (by decide) (by decide), show h (17 + 6) b = _ from (hC.2.2.2.2.2.2.2.2.2.1 b hb).2.1]
theorem g22 {h : AH} {σ : Sg} (hC : CQ h 17 σ) (w : WFs σ) {b : Nat} (hb : b < σ 0 1) (k d n : Nat) (f : Nat → Int32) (hd : d < 11) (hn : n < 14) : f_X1_gives (k + 3) 58 22 17 (nI b) (nI d) (TX h n f) = some (nI b + nI (σ 8 b) - 1000, TX h (n + 3) (upd (upd (upd f n 22) (n + 1) 21) (n + 2) 20)) := by
  refine g_in hC w hb (k + 2) d n f (by omega) (by omega) 22 ?_
  show (if _ then _ else _) = _
  rw [if_neg (show ¬ (22 : Int32) = 10 by decide), if_neg (show ¬ (22 : Int32) = 11 by decide), if_neg (show ¬ (22 : Int32) = 12 by decide), if_neg (show ¬ (22 : Int32) = 13 by decide), if_neg (show ¬ (22 : Int32) = 14 by decide), if_neg (show ¬ (22 : Int32) = 15 by decide), if_neg (show ¬ (22 : Int32) = 16 by decide), if_neg (show ¬ (22 : Int32) = 17 by decide), if_neg (show ¬ (22 : Int32) = 18 by decide), if_neg (show ¬ (22 : Int32) = 19 by decide), if_neg (show ¬ (22 : Int32) = 20 by decide), if_neg (show ¬ (22 : Int32) = 21 by decide), if_pos (show (22 : Int32) = 22 from rfl), g21 hC w hb _ _ _ _ (by omega) (by omega), bd_s]
theorem g24 {h : AH} {σ : Sg} (hC : CQ h 17 σ) (w : WFs σ) {b : Nat} (hb : b < σ 0 1) (k d n : Nat) (f : Nat → Int32) (hd : d < 11) (hn : n < 14) : f_X1_gives (k + 3) 58 24 17 (nI b) (nI d) (TX h n f) = some (2 * (nI b + nI (σ 8 b)), TX h (n + 3) (upd (upd (upd f n 24) (n + 1) 21) (n + 2) 20)) := by
  refine g_in hC w hb (k + 2) d n f (by omega) (by omega) 24 ?_
  show (if _ then _ else _) = _
  rw [if_neg (show ¬ (24 : Int32) = 10 by decide), if_neg (show ¬ (24 : Int32) = 11 by decide), if_neg (show ¬ (24 : Int32) = 12 by decide), if_neg (show ¬ (24 : Int32) = 13 by decide), if_neg (show ¬ (24 : Int32) = 14 by decide), if_neg (show ¬ (24 : Int32) = 15 by decide), if_neg (show ¬ (24 : Int32) = 16 by decide), if_neg (show ¬ (24 : Int32) = 17 by decide), if_neg (show ¬ (24 : Int32) = 18 by decide), if_neg (show ¬ (24 : Int32) = 19 by decide), if_neg (show ¬ (24 : Int32) = 20 by decide), if_neg (show ¬ (24 : Int32) = 21 by decide), if_neg (show ¬ (24 : Int32) = 22 by decide), if_neg (show ¬ (24 : Int32) = 23 by decide), if_pos (show (24 : Int32) = 24 from rfl), g21 hC w hb _ _ _ _ (by omega) (by omega), bd_s]
theorem x_body0 {s : Nat} (hs : s < 6) (h : AH) : f_X1_bodyFor 0 (nI s) h = some ((stv 2).getD s 0, h) := by
  unfold f_X1_bodyFor
  rw [if_pos rfl, ck_nI _ hs (by decide), cl_nI (by omega)]
theorem x_body1 {s : Nat} (hs : s < 6) (h : AH) : f_X1_bodyFor 1 (nI s) h = some ((stv 3).getD s 0, h) := by
  unfold f_X1_bodyFor
  rw [if_neg n10, ck_nI _ hs (by decide), cl_nI (by omega)]
theorem g23_4 {h : AH} {σ : Sg} (hC : CQ h 17 σ) (w : WFs σ) {b : Nat} (hb : b < σ 0 1) (e : σ 7 b = 4) (k d n : Nat) (f : Nat → Int32) (hd : d < 11) (hn : n < 13) : f_X1_gives (k + 3) 58 23 17 (nI b) (nI d) (TX h n f) = some (nI b - (nI (al σ b) - 100), TX h (n + 4) (upd (upd (upd (upd f n 23) (n + 1) 20) (n + 2) 13) (n + 3) 10)) := by
  refine g_in hC w hb (k + 2) d n f (by omega) (by omega) 23 ?_
  show (if _ then _ else _) = _
  rw [if_neg (show ¬ (23 : Int32) = 10 by decide), if_neg (show ¬ (23 : Int32) = 11 by decide), if_neg (show ¬ (23 : Int32) = 12 by decide), if_neg (show ¬ (23 : Int32) = 13 by decide), if_neg (show ¬ (23 : Int32) = 14 by decide), if_neg (show ¬ (23 : Int32) = 15 by decide), if_neg (show ¬ (23 : Int32) = 16 by decide), if_neg (show ¬ (23 : Int32) = 17 by decide), if_neg (show ¬ (23 : Int32) = 18 by decide), if_neg (show ¬ (23 : Int32) = 19 by decide), if_neg (show ¬ (23 : Int32) = 20 by decide), if_neg (show ¬ (23 : Int32) = 21 by decide), if_neg (show ¬ (23 : Int32) = 22 by decide), if_pos (show (23 : Int32) = 23 from rfl), g20 hC w hb _ _ _ _ (by omega) (by omega), bd_s, e, x_body0 (by decide), bd_s, show (stv 2).getD 4 0 = 13 from rfl, g13 hC w hb _ _ _ _ (by omega) (by omega), bd_s]
theorem g23_5 {h : AH} {σ : Sg} (hC : CQ h 17 σ) (w : WFs σ) {b : Nat} (hb : b < σ 0 1) (e : σ 7 b = 5) (k d n : Nat) (f : Nat → Int32) (hd : d < 10) (hn : n < 12) : f_X1_gives (k + 4) 58 23 17 (nI b) (nI d) (TX h n f) = some (nI b - 2 * (nI (al σ b) - 100), TX h (n + 5) (upd (upd (upd (upd (upd f n 23) (n + 1) 20) (n + 2) 14) (n + 3) 13) (n + 4) 10)) := by
  refine g_in hC w hb (k + 3) d n f (by omega) (by omega) 23 ?_
  show (if _ then _ else _) = _
  rw [if_neg (show ¬ (23 : Int32) = 10 by decide), if_neg (show ¬ (23 : Int32) = 11 by decide), if_neg (show ¬ (23 : Int32) = 12 by decide), if_neg (show ¬ (23 : Int32) = 13 by decide), if_neg (show ¬ (23 : Int32) = 14 by decide), if_neg (show ¬ (23 : Int32) = 15 by decide), if_neg (show ¬ (23 : Int32) = 16 by decide), if_neg (show ¬ (23 : Int32) = 17 by decide), if_neg (show ¬ (23 : Int32) = 18 by decide), if_neg (show ¬ (23 : Int32) = 19 by decide), if_neg (show ¬ (23 : Int32) = 20 by decide), if_neg (show ¬ (23 : Int32) = 21 by decide), if_neg (show ¬ (23 : Int32) = 22 by decide), if_pos (show (23 : Int32) = 23 from rfl), g20 hC w hb _ _ _ _ (by omega) (by omega), bd_s, e, x_body0 (by decide), bd_s, show (stv 2).getD 5 0 = 14 from rfl, g14 hC w hb _ _ _ _ (by omega) (by omega), bd_s]
theorem g11_1 {h : AH} {σ : Sg} (hC : CQ h 17 σ) (w : WFs σ) {b : Nat} (hb : b < σ 0 1) (e : σ 7 b = 1) (k d n : Nat) (f : Nat → Int32) (hd : d < 11) (hn : n < 13) : f_X1_gives (k + 3) 58 11 17 (nI b) (nI d) (TX h n f) = some (nI (al σ b) + (nI b + nI (σ 8 b)), TX h (n + 4) (upd (upd (upd (upd f n 11) (n + 1) 10) (n + 2) 21) (n + 3) 20)) := by
  refine g_in hC w hb (k + 2) d n f (by omega) (by omega) 11 ?_
  show (if _ then _ else _) = _
  rw [if_neg (show ¬ (11 : Int32) = 10 by decide), if_pos (show (11 : Int32) = 11 from rfl), g10 hC w hb _ _ _ _ (by omega) (by omega), bd_s, e, x_body1 (by decide), bd_s, show (stv 3).getD 1 0 = 21 from rfl, g21 hC w hb _ _ _ _ (by omega) (by omega), bd_s]
theorem g11_2 {h : AH} {σ : Sg} (hC : CQ h 17 σ) (w : WFs σ) {b : Nat} (hb : b < σ 0 1) (e : σ 7 b = 2) (k d n : Nat) (f : Nat → Int32) (hd : d < 10) (hn : n < 12) : f_X1_gives (k + 4) 58 11 17 (nI b) (nI d) (TX h n f) = some (nI (al σ b) + (nI b + nI (σ 8 b) - 1000), TX h (n + 5) (upd (upd (upd (upd (upd f n 11) (n + 1) 10) (n + 2) 22) (n + 3) 21) (n + 4) 20)) := by
  refine g_in hC w hb (k + 3) d n f (by omega) (by omega) 11 ?_
  show (if _ then _ else _) = _
  rw [if_neg (show ¬ (11 : Int32) = 10 by decide), if_pos (show (11 : Int32) = 11 from rfl), g10 hC w hb _ _ _ _ (by omega) (by omega), bd_s, e, x_body1 (by decide), bd_s, show (stv 3).getD 2 0 = 22 from rfl, g22 hC w hb _ _ _ _ (by omega) (by omega), bd_s]
theorem g11_3 {h : AH} {σ : Sg} (hC : CQ h 17 σ) (w : WFs σ) {b : Nat} (hb : b < σ 0 1) (e : σ 7 b = 3) (k d n : Nat) (f : Nat → Int32) (hd : d < 10) (hn : n < 12) : f_X1_gives (k + 4) 58 11 17 (nI b) (nI d) (TX h n f) = some (nI (al σ b) + 2 * (nI b + nI (σ 8 b)), TX h (n + 5) (upd (upd (upd (upd (upd f n 11) (n + 1) 10) (n + 2) 24) (n + 3) 21) (n + 4) 20)) := by
  refine g_in hC w hb (k + 3) d n f (by omega) (by omega) 11 ?_
  show (if _ then _ else _) = _
  rw [if_neg (show ¬ (11 : Int32) = 10 by decide), if_pos (show (11 : Int32) = 11 from rfl), g10 hC w hb _ _ _ _ (by omega) (by omega), bd_s, e, x_body1 (by decide), bd_s, show (stv 3).getD 3 0 = 24 from rfl, g24 hC w hb _ _ _ _ (by omega) (by omega), bd_s]
theorem g12_3 {h : AH} {σ : Sg} (hC : CQ h 17 σ) (w : WFs σ) {b : Nat} (hb : b < σ 0 1) (e : σ 7 b = 3) (k d n : Nat) (f : Nat → Int32) (hd : d < 9) (hn : n < 11) : f_X1_gives (k + 5) 58 12 17 (nI b) (nI d) (TX h n f) = some (0 - (nI (al σ b) + 2 * (nI b + nI (σ 8 b))), TX h (n + 6) (upd (upd (upd (upd (upd (upd f n 12) (n + 1) 11) (n + 2) 10) (n + 3) 24) (n + 4) 21) (n + 5) 20)) := by
  refine g_in hC w hb (k + 4) d n f (by omega) (by omega) 12 ?_
  show (if _ then _ else _) = _
  rw [if_neg (show ¬ (12 : Int32) = 10 by decide), if_neg (show ¬ (12 : Int32) = 11 by decide), if_pos (show (12 : Int32) = 12 from rfl), g11_3 hC w hb e _ _ _ _ (by omega) (by omega), bd_s]
theorem k_kind {h : AH} {σ : Sg} (hM : MR (h 4) σ) (w : WFs σ) {b : Nat} (hb : b < σ 0 1) (n : Nat) (f : Nat → Int32) : f_X8_of 0 (nI b) 0 (TM h n f) = some (nI (σ 7 b), TM h n f) := by
  have h6 := w.2.1
  rw [L0, m_of _ (by omega) (by decide), Nat.add_zero, TM_c _ _ _ (by decide) (by decide), (hM.2.2.2.2.2.2 b hb).1]
theorem k_mast {h : AH} {σ : Sg} (hM : MR (h 4) σ) (w : WFs σ) {b : Nat} (hb : b < σ 0 1) (n : Nat) (f : Nat → Int32) : f_X8_of 0 (nI b) 1 (TM h n f) = some (nI (σ 8 b), TM h n f) := by
  have h6 := w.2.1
  rw [L1, m_of _ (by omega) (by decide), TM_c _ _ _ (by decide) (by decide), (hM.2.2.2.2.2.2 b hb).2.1]
theorem k_plain {h : AH} {σ : Sg} (hM : MR (h 4) σ) (w : WFs σ) {b : Nat} (hb : b < σ 0 1) (n : Nat) (f : Nat → Int32) (hn : n < 16) : f_X8_plainSize 0 (nI b) (TM h n f) = some (nI (al σ b), TM h (n + 1) (upd f n 10)) := by
  unfold f_X8_plainSize
  rw [m_began _ hn, bd_s, m_allOf (MR_T hM _ _) w hb, bd_s]
theorem k_cart4 {h : AH} {σ : Sg} (hM : MR (h 4) σ) (w : WFs σ) {b : Nat} (hb : b < σ 0 1) (e : σ 7 b = 4) (n : Nat) (f : Nat → Int32) (hn : n < 15) : f_X8_cartSize 0 (nI b) (TM h n f) = some (nI (al σ b) - 100, TM h (n + 2) (upd (upd f n 13) (n + 1) 10)) := by
  unfold f_X8_cartSize f_X8_cartSize_16
  rw [k_kind hM w hb, bd_s, e, if_neg (show ¬ nI 4 = 5 by decide), m_began _ (by omega), bd_s, k_plain hM w hb _ _ (by omega), bd_s, lt_s2, k_kind hM w hb, bd_s, e, if_neg (show ¬ nI 4 = 5 by decide)]
theorem k_cart5 {h : AH} {σ : Sg} (hM : MR (h 4) σ) (w : WFs σ) {b : Nat} (hb : b < σ 0 1) (e : σ 7 b = 5) (n : Nat) (f : Nat → Int32) (hn : n < 14) : f_X8_cartSize 0 (nI b) (TM h n f) = some (2 * (nI (al σ b) - 100), TM h (n + 3) (upd (upd (upd f n 14) (n + 1) 13) (n + 2) 10)) := by
  unfold f_X8_cartSize f_X8_cartSize_16
  rw [k_kind hM w hb, bd_s, e, if_pos (show nI 5 = 5 from rfl), m_began _ (by omega), bd_s, m_began _ (by omega), bd_s, k_plain hM w hb _ _ (by omega), bd_s, lt_s2, k_kind hM w hb, bd_s, e, if_pos (show nI 5 = 5 from rfl)]
theorem k_mark1 {h : AH} {σ : Sg} (hM : MR (h 4) σ) (w : WFs σ) {b : Nat} (hb : b < σ 0 1) (e : σ 7 b = 1) (n : Nat) (f : Nat → Int32) (hn : n < 15) : f_X8_markOf 0 (nI b) (TM h n f) = some (nI b + nI (σ 8 b), TM h (n + 2) (upd (upd f n 21) (n + 1) 20)) := by
  unfold f_X8_markOf f_X8_markOf_53
  rw [k_kind hM w hb, bd_s, e, if_pos (show nI 1 < 4 by decide), if_pos (show nI 1 = 1 from rfl), m_began _ (by omega), bd_s, m_began _ (by omega), bd_s, k_mast hM w hb, bd_s, lt_s2, if_pos (show nI 1 = 1 from rfl)]
theorem k_mark2 {h : AH} {σ : Sg} (hM : MR (h 4) σ) (w : WFs σ) {b : Nat} (hb : b < σ 0 1) (e : σ 7 b = 2) (n : Nat) (f : Nat → Int32) (hn : n < 14) : f_X8_markOf 0 (nI b) (TM h n f) = some (nI b + nI (σ 8 b) - 1000, TM h (n + 3) (upd (upd (upd f n 22) (n + 1) 21) (n + 2) 20)) := by
  unfold f_X8_markOf f_X8_markOf_50 f_X8_markOf_53
  rw [k_kind hM w hb, bd_s, e, if_pos (show nI 2 < 4 by decide), if_neg (show ¬ nI 2 = 1 by decide), if_pos (show nI 2 = 2 from rfl), m_began _ (by omega), bd_s, m_began _ (by omega), bd_s, m_began _ (by omega), bd_s, k_mast hM w hb, bd_s, lt_s2, if_neg (show ¬ nI 2 = 1 by decide), if_pos (show nI 2 = 2 from rfl)]
theorem k_mark3 {h : AH} {σ : Sg} (hM : MR (h 4) σ) (w : WFs σ) {b : Nat} (hb : b < σ 0 1) (e : σ 7 b = 3) (n : Nat) (f : Nat → Int32) (hn : n < 14) : f_X8_markOf 0 (nI b) (TM h n f) = some (2 * (nI b + nI (σ 8 b)), TM h (n + 3) (upd (upd (upd f n 24) (n + 1) 21) (n + 2) 20)) := by
  unfold f_X8_markOf f_X8_markOf_50 f_X8_markOf_53
  rw [k_kind hM w hb, bd_s, e, if_pos (show nI 3 < 4 by decide), if_neg (show ¬ nI 3 = 1 by decide), if_neg (show ¬ nI 3 = 2 by decide), m_began _ (by omega), bd_s, m_began _ (by omega), bd_s, m_began _ (by omega), bd_s, k_mast hM w hb, bd_s, lt_s2, if_neg (show ¬ nI 3 = 1 by decide), if_neg (show ¬ nI 3 = 2 by decide)]
theorem k_mark4 {h : AH} {σ : Sg} (hM : MR (h 4) σ) (w : WFs σ) {b : Nat} (hb : b < σ 0 1) (e : σ 7 b = 4) (n : Nat) (f : Nat → Int32) (hn : n < 13) : f_X8_markOf 0 (nI b) (TM h n f) = some (nI b - (nI (al σ b) - 100), TM h (n + 4) (upd (upd (upd (upd f n 23) (n + 1) 20) (n + 2) 13) (n + 3) 10)) := by
  unfold f_X8_markOf
  rw [k_kind hM w hb, bd_s, e, if_neg (show ¬ nI 4 < 4 by decide), m_began _ (by omega), bd_s, m_began _ (by omega), bd_s, k_cart4 hM w hb e _ _ (by omega), bd_s]
theorem k_mark5 {h : AH} {σ : Sg} (hM : MR (h 4) σ) (w : WFs σ) {b : Nat} (hb : b < σ 0 1) (e : σ 7 b = 5) (n : Nat) (f : Nat → Int32) (hn : n < 12) : f_X8_markOf 0 (nI b) (TM h n f) = some (nI b - 2 * (nI (al σ b) - 100), TM h (n + 5) (upd (upd (upd (upd (upd f n 23) (n + 1) 20) (n + 2) 14) (n + 3) 13) (n + 4) 10)) := by
  unfold f_X8_markOf
  rw [k_kind hM w hb, bd_s, e, if_neg (show ¬ nI 5 < 4 by decide), m_began _ (by omega), bd_s, m_began _ (by omega), bd_s, k_cart5 hM w hb e _ _ (by omega), bd_s]
theorem k_size1 {h : AH} {σ : Sg} (hM : MR (h 4) σ) (w : WFs σ) {b : Nat} (hb : b < σ 0 1) (e : σ 7 b = 1) (n : Nat) (f : Nat → Int32) (hn : n < 13) : f_X8_sizeOf 0 (nI b) (TM h n f) = some (nI (al σ b) + (nI b + nI (σ 8 b)), TM h (n + 4) (upd (upd (upd (upd f n 11) (n + 1) 10) (n + 2) 21) (n + 3) 20)) := by
  unfold f_X8_sizeOf f_X8_sizeOf_29
  rw [k_kind hM w hb, bd_s, e, if_pos (show nI 1 < 4 by decide), if_neg (show ¬ nI 1 = 3 by decide), m_began _ (by omega), bd_s, k_plain hM w hb _ _ (by omega), bd_s, k_mark1 hM w hb e _ _ (by omega), bd_s, lt_s2, if_neg (show ¬ nI 1 = 3 by decide)]
theorem k_size2 {h : AH} {σ : Sg} (hM : MR (h 4) σ) (w : WFs σ) {b : Nat} (hb : b < σ 0 1) (e : σ 7 b = 2) (n : Nat) (f : Nat → Int32) (hn : n < 12) : f_X8_sizeOf 0 (nI b) (TM h n f) = some (nI (al σ b) + (nI b + nI (σ 8 b) - 1000), TM h (n + 5) (upd (upd (upd (upd (upd f n 11) (n + 1) 10) (n + 2) 22) (n + 3) 21) (n + 4) 20)) := by
  unfold f_X8_sizeOf f_X8_sizeOf_29
  rw [k_kind hM w hb, bd_s, e, if_pos (show nI 2 < 4 by decide), if_neg (show ¬ nI 2 = 3 by decide), m_began _ (by omega), bd_s, k_plain hM w hb _ _ (by omega), bd_s, k_mark2 hM w hb e _ _ (by omega), bd_s, lt_s2, if_neg (show ¬ nI 2 = 3 by decide)]
theorem k_size3 {h : AH} {σ : Sg} (hM : MR (h 4) σ) (w : WFs σ) {b : Nat} (hb : b < σ 0 1) (e : σ 7 b = 3) (n : Nat) (f : Nat → Int32) (hn : n < 11) : f_X8_sizeOf 0 (nI b) (TM h n f) = some (0 - (nI (al σ b) + 2 * (nI b + nI (σ 8 b))), TM h (n + 6) (upd (upd (upd (upd (upd (upd f n 12) (n + 1) 11) (n + 2) 10) (n + 3) 24) (n + 4) 21) (n + 5) 20)) := by
  unfold f_X8_sizeOf f_X8_sizeOf_29
  rw [k_kind hM w hb, bd_s, e, if_pos (show nI 3 < 4 by decide), if_pos (show nI 3 = 3 from rfl), m_began _ (by omega), bd_s, m_began _ (by omega), bd_s, k_plain hM w hb _ _ (by omega), bd_s, k_mark3 hM w hb e _ _ (by omega), bd_s, lt_s2, if_pos (show nI 3 = 3 from rfl), Int32.zero_sub]
theorem k_size4 {h : AH} {σ : Sg} (hM : MR (h 4) σ) (w : WFs σ) {b : Nat} (hb : b < σ 0 1) (e : σ 7 b = 4) (n : Nat) (f : Nat → Int32) (hn : n < 15) : f_X8_sizeOf 0 (nI b) (TM h n f) = some (nI (al σ b) - 100, TM h (n + 2) (upd (upd f n 13) (n + 1) 10)) := by
  unfold f_X8_sizeOf
  rw [k_kind hM w hb, bd_s, e, if_neg (show ¬ nI 4 < 4 by decide), k_cart4 hM w hb e _ _ hn, bd_s]
theorem k_size5 {h : AH} {σ : Sg} (hM : MR (h 4) σ) (w : WFs σ) {b : Nat} (hb : b < σ 0 1) (e : σ 7 b = 5) (n : Nat) (f : Nat → Int32) (hn : n < 14) : f_X8_sizeOf 0 (nI b) (TM h n f) = some (2 * (nI (al σ b) - 100), TM h (n + 3) (upd (upd (upd f n 14) (n + 1) 13) (n + 2) 10)) := by
  unfold f_X8_sizeOf
  rw [k_kind hM w hb, bd_s, e, if_neg (show ¬ nI 5 < 4 by decide), k_cart5 hM w hb e _ _ hn, bd_s]
def RCs (n : Nat) (f g : Nat → Int32) : Prop := ∀ j, j < n → f j = g j
theorem RCs_0 (f g : Nat → Int32) : RCs 0 f g := fun j h => absurd h (Nat.not_lt_zero j)
theorem RCs_s {n : Nat} {f g : Nat → Int32} (h : RCs n f g) (v : Int32) : RCs (n + 1) (upd f n v) (upd g n v) := fun j hj => by
  by_cases c : j = n
  · subst c; rw [pk_us, pk_us]
  · rw [pk_un c, pk_un c]; exact h j (by omega)
theorem ask_done {hx hm : AH} (hR : Rel hx hm) {n : Nat} (hn : n ≤ 16) {f g : Nat → Int32} (h : RCs n f g) : Rel (TX hx n f) (TM hm n g) := by
  refine rel_rc hR (fun c c1 c2 => TX_c _ _ _ c1 c2) (fun c c0 c1 => TM_c _ _ _ c0 c1) (fun k k0 k1 => ?_) ⟨n, hn, ?_, ?_, ?_⟩
  · unfold TM; rw [hs_place _ _ _ _ _ k1, hput_ne _ _ (by decide)]
  · unfold TX; rw [hs_self]
  · unfold TM; rw [hs_self]
  · unfold TX TM
    rw [hs_cell _ _ _ _ _ (by decide), hput_self, hs_cell _ _ _ _ _ (by decide), hput_self]
    exact h
theorem ok_ask (a0 a1 : Int32) : OK2 Rel (fun h => f_X7_ask 0 a0 a1 h) (fun h => f_X8_ask 0 a0 a1 h) := by
  intro hx hm hR
  show ∃ r hx2 hm2, f_X7_ask 0 a0 a1 hx = some (r, hx2) ∧ f_X8_ask 0 a0 a1 hm = some (r, hm2) ∧ Rel hx2 hm2
  have hR1 := rel_thrown hR
  unfold f_X7_ask f_X8_ask f_X1_answer
  rw [lt_s2 (hset hm 0 0 0)]
  generalize hset hm 0 0 0 = hm1 at hR1 ⊢
  obtain ⟨σ, w, hC, hM, e7, -⟩ := hR1.2.2.2.1
  have hC : CQ hx 17 σ := hC
  have h6 := w.2.1
  have i2 : ∀ {α : Type} (P Q : α), (if a1 < 0 then P else if a1 ≤ 1 then Q else P) = if rg a1 2 = 0 then P else Q := fun P Q => rg_if2 a1 1 (by decide) P Q
  have tx : hset hx 58 1 0 = TX hx 0 (hx 59) := by unfold TX; rw [hput_id]; rfl
  have tm : hset hm1 0 33 0 = TM hm1 0 (hm1 18) := by unfold TM; rw [hput_id]; rfl
  simp only [Nat.zero_add, x_isBoat hC, m_isBoat hM w, bd_s, i2, m_in1, lt_s2, tx, tm]
  rcases rg_cases a0 (n := σ 0 1) (by omega) with h0 | ⟨b, hb, rfl⟩
  · simp only [h0, if_true]
    exact ⟨_, _, _, rfl, rfl, hR1⟩
  rw [rg_in hb (by omega), if_neg n10, if_neg n10]
  rcases rg_cases a1 (n := 2) (by decide) with h0 | ⟨k, hk, rfl⟩
  · simp only [h0, if_true]
    exact ⟨_, _, _, rfl, rfl, hR1⟩
  have hw := wf_b w hb
  have e5 : (TX hx 0 (hx 59)) (17 + 5) b = nI (σ 7 b) := by
    rw [TX_c _ _ _ (by decide) (by decide)]
    exact (hC.2.2.2.2.2.2.2.2.2.1 b hb).1
  rw [rg_in hk (by decide), if_neg n10, if_neg n10, ck_nI _ (by omega) (by decide), cl_nI (by omega), e5]
  have z := RCs_0 (hx 59) (hm1 18)
  rcases (show k = 0 ∨ k = 1 by omega) with rfl | rfl
  · rw [show f_X1_bodyFor (nI 0) (nI (σ 7 b)) (TX hx 0 (hx 59)) = _ from x_body0 (by omega) _, bd_s, if_n0, show (0 : Int32) = nI 0 from rfl]
    rcases (show σ 7 b = 1 ∨ σ 7 b = 2 ∨ σ 7 b = 3 ∨ σ 7 b = 4 ∨ σ 7 b = 5 by omega) with e | e | e | e | e
    · rw [e, show (stv 2).getD 1 (nI 0) = 11 from rfl, g11_1 hC w hb e 13 0 0 _ (by decide) (by decide), k_size1 hM w hb e 0 _ (by decide), bd_s, bd_s]
      exact ⟨_, _, _, rfl, rfl, ask_done hR1 (by decide) (RCs_s (RCs_s (RCs_s (RCs_s z _) _) _) _)⟩
    · rw [e, show (stv 2).getD 2 (nI 0) = 11 from rfl, g11_2 hC w hb e 12 0 0 _ (by decide) (by decide), k_size2 hM w hb e 0 _ (by decide), bd_s, bd_s]
      exact ⟨_, _, _, rfl, rfl, ask_done hR1 (by decide) (RCs_s (RCs_s (RCs_s (RCs_s (RCs_s z _) _) _) _) _)⟩
    · rw [e, show (stv 2).getD 3 (nI 0) = 12 from rfl, g12_3 hC w hb e 11 0 0 _ (by decide) (by decide), k_size3 hM w hb e 0 _ (by decide), bd_s, bd_s]
      exact ⟨_, _, _, rfl, rfl, ask_done hR1 (by decide) (RCs_s (RCs_s (RCs_s (RCs_s (RCs_s (RCs_s z _) _) _) _) _) _)⟩
    · rw [e, show (stv 2).getD 4 (nI 0) = 13 from rfl, g13 hC w hb 14 0 0 _ (by decide) (by decide), k_size4 hM w hb e 0 _ (by decide), bd_s, bd_s]
      exact ⟨_, _, _, rfl, rfl, ask_done hR1 (by decide) (RCs_s (RCs_s z _) _)⟩
    · rw [e, show (stv 2).getD 5 (nI 0) = 14 from rfl, g14 hC w hb 13 0 0 _ (by decide) (by decide), k_size5 hM w hb e 0 _ (by decide), bd_s, bd_s]
      exact ⟨_, _, _, rfl, rfl, ask_done hR1 (by decide) (RCs_s (RCs_s (RCs_s z _) _) _)⟩
  · rw [show f_X1_bodyFor (nI 1) (nI (σ 7 b)) (TX hx 0 (hx 59)) = _ from x_body1 (by omega) _, bd_s, if_n1, show (0 : Int32) = nI 0 from rfl]
    rcases (show σ 7 b = 1 ∨ σ 7 b = 2 ∨ σ 7 b = 3 ∨ σ 7 b = 4 ∨ σ 7 b = 5 by omega) with e | e | e | e | e
    · rw [e, show (stv 3).getD 1 (nI 0) = 21 from rfl, g21 hC w hb 14 0 0 _ (by decide) (by decide), k_mark1 hM w hb e 0 _ (by decide), bd_s, bd_s]
      exact ⟨_, _, _, rfl, rfl, ask_done hR1 (by decide) (RCs_s (RCs_s z _) _)⟩
    · rw [e, show (stv 3).getD 2 (nI 0) = 22 from rfl, g22 hC w hb 13 0 0 _ (by decide) (by decide), k_mark2 hM w hb e 0 _ (by decide), bd_s, bd_s]
      exact ⟨_, _, _, rfl, rfl, ask_done hR1 (by decide) (RCs_s (RCs_s (RCs_s z _) _) _)⟩
    · rw [e, show (stv 3).getD 3 (nI 0) = 24 from rfl, g24 hC w hb 13 0 0 _ (by decide) (by decide), k_mark3 hM w hb e 0 _ (by decide), bd_s, bd_s]
      exact ⟨_, _, _, rfl, rfl, ask_done hR1 (by decide) (RCs_s (RCs_s (RCs_s z _) _) _)⟩
    · rw [e, show (stv 3).getD 4 (nI 0) = 23 from rfl, g23_4 hC w hb e 13 0 0 _ (by decide) (by decide), k_mark4 hM w hb e 0 _ (by decide), bd_s, bd_s]
      exact ⟨_, _, _, rfl, rfl, ask_done hR1 (by decide) (RCs_s (RCs_s (RCs_s (RCs_s z _) _) _) _)⟩
    · rw [e, show (stv 3).getD 5 (nI 0) = 23 from rfl, g23_5 hC w hb e 12 0 0 _ (by decide) (by decide), k_mark5 hM w hb e 0 _ (by decide), bd_s, bd_s]
      exact ⟨_, _, _, rfl, rfl, ask_done hR1 (by decide) (RCs_s (RCs_s (RCs_s (RCs_s (RCs_s z _) _) _) _) _)⟩
