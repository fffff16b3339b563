-- split
theorem hset_hput (h : AH) (r k : Nat) (v : Int32) (f : Nat → Int32) : hset (hput h r f) r k v = hput h r (upd f k v) := by
  funext a
  by_cases e : a = r
  · subst e; rw [hs_row, hput_self, hput_self]
  · rw [hput_ne _ _ e, hs_cell _ _ _ _ _ e, hput_ne _ _ e]
theorem hset_as (h : AH) (r k : Nat) (v : Int32) : hset h r k v = hput h r (upd (h r) k v) := by
  funext a
  by_cases e : a = r
  · subst e; rw [hs_row, hput_self]
  · rw [hput_ne _ _ e, hs_cell _ _ _ _ _ e]
theorem mx_al {σ : Sg} (b : Nat) {u : Nat} (hu : u < 4) (h : σ 9 (4 * b + u) ≠ 0) : mx σ b = 0 ↔ σ 9 (4 * b + u) = al σ b := by
  unfold mx mxd tr al
  have k0 := sg_lt (σ 9 (4 * b)); have k1 := sg_lt (σ 9 (4 * b + 1)); have k2 := sg_lt (σ 9 (4 * b + 2)); have k3 := sg_lt (σ 9 (4 * b + 3))
  have z : ∀ x, (sg x = 0 ∧ x = 0) ∨ (sg x = 1 ∧ x ≠ 0) := fun x => by unfold sg; split; exact Or.inl ⟨rfl, by assumption⟩; exact Or.inr ⟨rfl, by assumption⟩
  have z0 := z (σ 9 (4 * b)); have z1 := z (σ 9 (4 * b + 1)); have z2 := z (σ 9 (4 * b + 2)); have z3 := z (σ 9 (4 * b + 3))
  generalize sg (σ 9 (4 * b)) = s0 at *
  generalize sg (σ 9 (4 * b + 1)) = s1 at *
  generalize sg (σ 9 (4 * b + 2)) = s2 at *
  generalize sg (σ 9 (4 * b + 3)) = s3 at *
  have e0 : (s0 + s1 * 2 + s2 * 4 + s3 * 8) % 2 = s0 := by omega
  have e1 : (s0 + s1 * 2 + s2 * 4 + s3 * 8) / 2 % 2 = s1 := by omega
  have e2 : (s0 + s1 * 2 + s2 * 4 + s3 * 8) / 4 % 2 = s2 := by omega
  have e3 : (s0 + s1 * 2 + s2 * 4 + s3 * 8) / 8 % 2 = s3 := by omega
  rw [e0, e1, e2, e3]
  rcases (show u = 0 ∨ u = 1 ∨ u = 2 ∨ u = 3 by omega) with rfl | rfl | rfl | rfl <;> (try simp only [Nat.add_zero] at h ⊢) <;> split <;> omega
def tsp (σ : Sg) (b u : Nat) : Sg := fun i j => if i = 0 ∧ j = 1 then σ 0 1 + 1 else if i = 7 ∧ j = σ 0 1 then σ 7 b else if i = 8 ∧ j = σ 0 1 then σ 8 b else if i = 10 ∧ j = σ 0 1 then 0 else if i = 9 ∧ j = 4 * σ 0 1 + u then σ 9 (4 * b + u) else if i = 9 ∧ j = 4 * b + u then 0 else if i = 9 ∧ j / 4 = σ 0 1 then 0 else σ i j
theorem tsp_ne {σ : Sg} {b u i : Nat} (h : i ≠ 0 ∧ i ≠ 7 ∧ i ≠ 8 ∧ i ≠ 9 ∧ i ≠ 10) : tsp σ b u i = σ i := funext fun _ => by
  unfold tsp
  rw [if_neg (by omega), if_neg (by omega), if_neg (by omega), if_neg (by omega), if_neg (by omega), if_neg (by omega), if_neg (by omega)]
theorem tsp_k {σ : Sg} {b u k : Nat} (h : k ≠ 1) : tsp σ b u 0 k = σ 0 k := by
  unfold tsp
  rw [if_neg (by omega), if_neg (by omega), if_neg (by omega), if_neg (by omega), if_neg (by omega), if_neg (by omega), if_neg (by omega)]
theorem tsp_1 {σ : Sg} {b u : Nat} : tsp σ b u 0 1 = σ 0 1 + 1 := if_pos ⟨rfl, rfl⟩
theorem tsp_7 {σ : Sg} {b u k : Nat} : tsp σ b u 7 k = if k = σ 0 1 then σ 7 b else σ 7 k := by
  unfold tsp; (repeat' split) <;> first | rfl | omega
theorem tsp_8 {σ : Sg} {b u k : Nat} : tsp σ b u 8 k = if k = σ 0 1 then σ 8 b else σ 8 k := by
  unfold tsp; (repeat' split) <;> first | rfl | omega
theorem tsp_10 {σ : Sg} {b u k : Nat} : tsp σ b u 10 k = if k = σ 0 1 then 0 else σ 10 k := by
  unfold tsp; (repeat' split) <;> first | rfl | omega
theorem tsp_9 {σ : Sg} {b u k : Nat} : tsp σ b u 9 k = if k = 4 * σ 0 1 + u then σ 9 (4 * b + u) else if k = 4 * b + u then 0 else if k / 4 = σ 0 1 then 0 else σ 9 k := by
  unfold tsp; (repeat' split) <;> first | rfl | omega
theorem WF_split {σ : Sg} (w : WFs σ) (hst : σ 0 4 = 1) (h5 : σ 0 1 < 6) {b u : Nat} (hb : b < σ 0 1) (hu : u < 4) : WFs (tsp σ b u) := by
  have hh := wf_b w hb
  obtain ⟨w1, w2, w3, w4, w5, w6, w7, w8, w9, w10⟩ := w
  unfold WFs
  rw [tsp_ne (i := 1) (by decide), tsp_ne (i := 2) (by decide), tsp_ne (i := 3) (by decide), tsp_ne (i := 4) (by decide), tsp_ne (i := 5) (by decide), tsp_ne (i := 6) (by decide), tsp_ne (i := 11) (by decide), tsp_k (k := 0) (by decide), tsp_k (k := 2) (by decide), tsp_k (k := 3) (by decide), tsp_k (k := 4) (by decide), tsp_1]
  refine ⟨w1, by omega, w3, w4, fun z => by omega, w6, w7, fun b' hb' => ?_, w9, w10⟩
  rw [tsp_7, tsp_8, tsp_10]
  by_cases c : b' = σ 0 1
  · rw [if_pos c, if_pos c, if_pos c]
    refine ⟨hh.1, hh.2.1, hh.2.2.1, fun t ht => ?_, by decide⟩
    have := hh.2.2.2.1 u hu
    rw [tsp_9]; (repeat' split) <;> omega
  · rw [if_neg c, if_neg c, if_neg c]
    obtain ⟨q1, q2, q3, q4, q5⟩ := w8 b' (by omega)
    refine ⟨q1, q2, q3, fun t ht => ?_, q5⟩
    have := q4 t ht
    have := hh.2.2.2.1 u hu
    rw [tsp_9]; (repeat' split) <;> omega
/-- the class's loads behind a split -/
def spl (f : Nat → Int32) (n b u : Nat) (v : Int32) : Nat → Int32 := fun j => if j = 4 * b + u then 0 else if j = 4 * n + u then v else if j / 4 = n then 0 else f j
def mspl (f : Nat → Int32) (n b u : Nat) (k m v : Int32) : Nat → Int32 := fun j => if j = 1 then nI (n + 1) else if j = 58 + 7 * b + 2 + u then 0 else if j = 58 + 7 * n + 2 + u then v else if j = 58 + 7 * n + 1 then m else if j = 58 + 7 * n then k else if 58 + 7 * n ≤ j ∧ j < 58 + 7 * n + 7 then 0 else f j
theorem CR_split {c0 c1 c2 c3 c4 c5 c6 c7 c8 : Nat → Int32} {σ : Sg} (hC : CR c0 c1 c2 c3 c4 c5 c6 c7 c8 σ) (w : WFs σ) {b u : Nat} (hb : b < σ 0 1) (hu : u < 4) : CR (upd c0 2 (nI (σ 0 1 + 1))) c1 c2 c3 c4 (upd c5 (σ 0 1) (nI (σ 7 b))) (upd c6 (σ 0 1) (nI (σ 8 b))) (spl c7 (σ 0 1) b u (nI (σ 9 (4 * b + u)))) c8 (tsp σ b u) := by
  obtain ⟨w1, w2, w3, w4, w5, w6, w7, w8, w9, w10, w11⟩ := hC
  unfold CR
  rw [tsp_ne (i := 1) (by decide), tsp_ne (i := 2) (by decide), tsp_ne (i := 3) (by decide), tsp_ne (i := 4) (by decide), tsp_ne (i := 5) (by decide), tsp_ne (i := 6) (by decide), tsp_ne (i := 11) (by decide), tsp_k (k := 0) (by decide), tsp_k (k := 2) (by decide), tsp_k (k := 3) (by decide), tsp_k (k := 4) (by decide), tsp_1]
  refine ⟨?_, ?_, ?_, ?_, ?_, ?_, ?_, w8, w9, fun b' hb' => ?_, w11⟩
  · rw [pk_un (by decide)]; exact w1
  · rw [pk_un (by decide)]; exact w2
  · rw [pk_us]
  · rw [pk_un (by decide)]; exact w4
  · rw [pk_un (by decide)]; exact w5
  · rw [pk_un (by decide)]; exact w6
  · rw [pk_un (by decide), w7]
    show _ = nI (bsum (tsp σ b u 10) (σ 0 1) + tsp σ b u 10 (σ 0 1) * 2 ^ σ 0 1)
    rw [tsp_10, if_pos rfl, Nat.zero_mul, Nat.add_zero]
    congr 1
    exact bs_congr (fun i hi => by rw [tsp_10, if_neg (by omega)])
  · rw [tsp_7, tsp_8]
    by_cases c : b' = σ 0 1
    · rw [if_pos c, if_pos c, c, pk_us, pk_us]
      refine ⟨rfl, rfl, fun t ht => ?_⟩
      rw [tsp_9]
      unfold spl
      by_cases c2 : t = u
      · rw [c2, if_neg (by omega), if_pos rfl, if_pos rfl]
      · rw [if_neg (by omega), if_neg (by omega), if_pos (by omega), if_neg (by omega), if_neg (by omega), if_pos (by omega)]; rfl
    · obtain ⟨q1, q2, q3⟩ := w10 b' (by omega)
      rw [if_neg c, if_neg c, pk_un c, pk_un c]
      refine ⟨q1, q2, fun t ht => ?_⟩
      rw [tsp_9]
      unfold spl
      by_cases c2 : 4 * b' + t = 4 * b + u
      · rw [if_pos c2, if_neg (by omega), if_pos c2]; rfl
      · rw [if_neg c2, if_neg (by omega), if_neg (by omega), if_neg (by omega), if_neg c2, if_neg (by omega)]; exact q3 t ht
theorem MR_split {w : Nat → Int32} {σ : Sg} (hM : MR w σ) (wf : WFs σ) {b u : Nat} (hb : b < σ 0 1) (hu : u < 4) : MR (mspl w (σ 0 1) b u (nI (σ 7 b)) (nI (σ 8 b)) (nI (σ 9 (4 * b + u)))) (tsp σ b u) := by
  obtain ⟨w1, w2, w3, w4, w5, w6, w7⟩ := hM
  have h6 := wf.1
  have h6b := wf.2.1
  have cn : ∀ j, j ≠ 1 → j < 58 → mspl w (σ 0 1) b u (nI (σ 7 b)) (nI (σ 8 b)) (nI (σ 9 (4 * b + u))) j = w j := fun j h1 h2 => by
    unfold mspl
    rw [if_neg h1, if_neg (by omega), if_neg (by omega), if_neg (by omega), if_neg (by omega), if_neg (by omega)]
  unfold MR
  rw [tsp_ne (i := 1) (by decide), tsp_ne (i := 2) (by decide), tsp_ne (i := 3) (by decide), tsp_ne (i := 4) (by decide), tsp_ne (i := 5) (by decide), tsp_ne (i := 6) (by decide), tsp_ne (i := 11) (by decide), tsp_k (k := 0) (by decide), tsp_k (k := 2) (by decide), tsp_k (k := 3) (by decide), tsp_1]
  refine ⟨?_, ?_, ?_, ?_, fun t ht => ?_, fun a ha => ?_, fun b' hb' => ?_⟩
  · rw [cn _ (by omega) (by omega)]; exact w1
  · rfl
  · rw [cn _ (by omega) (by omega)]; exact w3
  · rw [cn _ (by omega) (by omega)]; exact w4
  · rw [cn _ (by omega) (by omega)]; exact w5 t ht
  · rw [cn _ (by omega) (by omega), cn _ (by omega) (by omega), cn _ (by omega) (by omega), cn _ (by omega) (by omega), cn _ (by omega) (by omega), cn _ (by omega) (by omega), cn _ (by omega) (by omega)]
    exact w6 a ha
  · rw [tsp_7, tsp_8, tsp_10]
    by_cases c : b' = σ 0 1
    · rw [if_pos c, if_pos c, if_pos c, c]
      refine ⟨?_, ?_, fun t ht => ?_, ?_⟩
      · unfold mspl
        rw [if_neg (by omega), if_neg (by omega), if_neg (by omega), if_neg (by omega), if_pos rfl]
      · unfold mspl
        rw [if_neg (by omega), if_neg (by omega), if_neg (by omega), if_pos rfl]
      · unfold mspl
        rw [tsp_9]
        by_cases c2 : t = u
        · rw [c2, if_neg (by omega), if_neg (by omega), if_pos rfl, if_pos rfl]
        · rw [if_neg (by omega), if_neg (by omega), if_neg (by omega), if_neg (by omega), if_neg (by omega), if_pos (by omega), if_neg (by omega), if_neg (by omega), if_pos (by omega)]; rfl
      · unfold mspl
        rw [if_neg (by omega), if_neg (by omega), if_neg (by omega), if_neg (by omega), if_neg (by omega), if_pos (by omega)]; rfl
    · obtain ⟨q1, q2, q3, q4⟩ := w7 b' (by omega)
      rw [if_neg c, if_neg c, if_neg c]
      refine ⟨?_, ?_, fun t ht => ?_, ?_⟩
      · unfold mspl
        rw [if_neg (by omega), if_neg (by omega), if_neg (by omega), if_neg (by omega), if_neg (by omega), if_neg (by omega)]; exact q1
      · unfold mspl
        rw [if_neg (by omega), if_neg (by omega), if_neg (by omega), if_neg (by omega), if_neg (by omega), if_neg (by omega)]; exact q2
      · unfold mspl
        rw [tsp_9]
        by_cases c2 : 4 * b' + t = 4 * b + u
        · rw [if_neg (by omega), if_pos (by omega), if_neg (by omega), if_pos c2]; rfl
        · rw [if_neg (by omega), if_neg (by omega), if_neg (by omega), if_neg (by omega), if_neg (by omega), if_neg (by omega), if_neg (by omega), if_neg c2, if_neg (by omega)]; exact q3 t ht
      · unfold mspl
        rw [if_neg (by omega), if_neg (by omega), if_neg (by omega), if_neg (by omega), if_neg (by omega), if_neg (by omega)]; exact q4
theorem spl_e (f : Nat → Int32) {n b u : Nat} (v : Int32) (hb : b < n) (hu : u < 4) : upd (upd (upd (upd (upd (upd f (4 * n) 0) (4 * n + 1) 0) (4 * n + 2) 0) (4 * n + 3) 0) (4 * n + u) v) (4 * b + u) 0 = spl f n b u v := by
  funext j
  unfold upd spl
  (repeat' split) <;> first | rfl | omega
theorem x_splitOff {h : AH} {σ : Sg} (hC : CQ h 17 σ) (w : WFs σ) (h5 : σ 0 1 < 6) {b u : Nat} (hb : b < σ 0 1) (hu : u < 4) : f_X2_splitOff 17 (nI b) (nI u) h = some (nI (σ 0 1), hput (hset (hset (hset h 17 2 (nI (σ 0 1 + 1))) 22 (σ 0 1) (nI (σ 7 b))) 23 (σ 0 1) (nI (σ 8 b))) 24 (spl (h 24) (σ 0 1) b u (nI (σ 9 (4 * b + u))))) := by
  obtain ⟨k, hk⟩ := fu_s 5 (by decide)
  have c5 := hC.2.2.2.2.2.2.2.2.2.1 b hb
  have e7 : h 24 (4 * b + u) = nI (σ 9 (4 * b + u)) := c5.2.2 u hu
  unfold f_X2_splitOff
  rw [show h 17 2 = _ from hC.2.2.1]
  simp (disch := omega) only [lt_s2, ck_nI, cl_nI, L1, nI_add, Nat.reduceAdd]
  rw [hs_cell _ _ _ _ 22 (by decide), hs_cell _ _ _ _ 23 (by decide), hs_cell _ _ _ _ 23 (by decide), show h 22 b = _ from c5.1, show h 23 b = _ from c5.2.1]
  generalize hg : hset (hset (hset h 17 2 (nI (σ 0 1 + 1))) 22 (σ 0 1) (nI (σ 7 b))) 23 (σ 0 1) (nI (σ 8 b)) = g
  have eg : g 24 = h 24 := by rw [← hg, hs_cell _ _ _ _ _ (by decide), hs_cell _ _ _ _ _ (by decide), hs_cell _ _ _ _ _ (by decide)]
  rw [hk, show k + 5 = k + 1 + 1 + 1 + 1 + 1 from rfl]
  have hz : ∀ g' : AH, f_X2_splitOff_42 17 (k + 1) (nI b) (nI u) (nI (σ 0 1)) (nI 4) g' = some (nI (σ 0 1), hset (hset g' 24 (4 * σ 0 1 + u) (g' 24 (4 * b + u))) 24 (4 * b + u) 0) := by
    intro g'
    rw [f_X2_splitOff_42, if_pos (show (4 : Int32) ≤ nI 4 from by decide)]
    unfold f_X2_loadPlace
    rw [bd_s, x_loadOf _ (by omega) hu, bd_s, L4, pk_mul, nI_add, ck_nI _ (by omega) (by decide), cl_nI (by omega), lt_s2, bd_s, pk_mul, nI_add, ck_nI _ (by omega) (by decide), cl_nI (by omega), lt_s2, Nat.mul_comm b 4, Nat.mul_comm (σ 0 1) 4]
  have hst : ∀ (f t : Nat) (g' : AH), t < 4 → f_X2_splitOff_42 17 (f + 1) (nI b) (nI u) (nI (σ 0 1)) (nI t) g' = f_X2_splitOff_42 17 f (nI b) (nI u) (nI (σ 0 1)) (nI (t + 1)) (hset g' 24 (4 * σ 0 1 + t) 0) := by
    intro f t g' ht
    rw [f_X2_splitOff_42, if_neg (show ¬ (4 : Int32) ≤ nI t from nI_ge (b := 4) ht (by decide))]
    unfold f_X2_loadPlace
    rw [bd_s, L4, pk_mul, nI_add, ck_nI _ (by omega) (by decide), cl_nI (by omega), lt_s2, lt_s2, L1, nI_add, Nat.mul_comm (σ 0 1) 4]
  rw [show (0 : Int32) = nI 0 from rfl, hst _ 0 _ (by decide), hst _ 1 _ (by decide), hst _ 2 _ (by decide), hst _ 3 _ (by decide), hz]
  rw [hset_as g, hset_hput, hset_hput, hset_hput, hput_self, hset_hput, hset_hput, eg, Nat.add_zero]
  have eu : upd (upd (upd (upd (h 24) (4 * σ 0 1) 0) (4 * σ 0 1 + 1) 0) (4 * σ 0 1 + 2) 0) (4 * σ 0 1 + 3) 0 (4 * b + u) = nI (σ 9 (4 * b + u)) := by
    rw [pk_un (by omega), pk_un (by omega), pk_un (by omega), pk_un (by omega), e7]
  rw [eu, spl_e _ _ hb hu]
theorem mspl_e (f : Nat → Int32) {n b u : Nat} (k m v : Int32) (hb : b < n) (hu : u < 4) : upd (upd (upd (upd (upd (upd (upd (upd (upd (upd (upd (upd f (58 + 7 * n) 0) (58 + 7 * n + 1) 0) (58 + 7 * n + 2) 0) (58 + 7 * n + 3) 0) (58 + 7 * n + 4) 0) (58 + 7 * n + 5) 0) (58 + 7 * n + 6) 0) (58 + 7 * n) k) (58 + 7 * n + 1) m) (58 + 7 * n + 2 + u) v) (58 + 7 * b + 2 + u) 0) 1 (nI (n + 1)) = mspl f n b u k m v := by
  funext j
  unfold upd mspl
  by_cases c1 : j = 1
  · rw [if_pos c1, if_pos c1]
  rw [if_neg c1, if_neg c1]
  by_cases c2 : j = 58 + 7 * b + 2 + u
  · rw [if_pos c2, if_pos c2]
  rw [if_neg c2, if_neg c2]
  by_cases c3 : j = 58 + 7 * n + 2 + u
  · rw [if_pos c3, if_pos c3]
  rw [if_neg c3, if_neg c3]
  by_cases c4 : j = 58 + 7 * n + 1
  · rw [if_pos c4, if_pos c4]
  simp only [if_neg c4]
  by_cases c5 : j = 58 + 7 * n
  · simp only [if_pos c5]
  simp only [if_neg c5]
  by_cases c6 : 58 + 7 * n ≤ j ∧ j < 58 + 7 * n + 7
  · rw [if_pos c6]
    rcases (show j = 58 + 7 * n + 2 ∨ j = 58 + 7 * n + 3 ∨ j = 58 + 7 * n + 4 ∨ j = 58 + 7 * n + 5 ∨ j = 58 + 7 * n + 6 by omega) with e | e | e | e | e <;> subst e <;> simp
  · rw [if_neg c6, if_neg (by omega), if_neg (by omega), if_neg (by omega), if_neg (by omega), if_neg (by omega)]
theorem m_split84 {g : AH} {σ : Sg} (hM : MR (g 4) σ) (w : WFs σ) (h5 : σ 0 1 < 6) {b u : Nat} (hb : b < σ 0 1) (hu : u < 4) : f_X8_split_84 0 fu (nI b) (nI u) (nI (σ 9 (4 * b + u))) (nI (σ 0 1)) 0 g = some (nI (σ 0 1), hput g 4 (mspl (g 4) (σ 0 1) b u (nI (σ 7 b)) (nI (σ 8 b)) (nI (σ 9 (4 * b + u))))) := by
  obtain ⟨k, hk⟩ := fu_s 8 (by decide)
  have cm := hM.2.2.2.2.2.2 b hb
  have hz : ∀ g' : AH, f_X8_split_84 0 (k + 1) (nI b) (nI u) (nI (σ 9 (4 * b + u))) (nI (σ 0 1)) (nI 7) g' = some (nI (σ 0 1), hset (hset (hset (hset (hset g' 4 (58 + 7 * σ 0 1) (g' 4 (58 + 7 * b))) 4 (58 + 7 * σ 0 1 + 1) (g' 4 (58 + 7 * b + 1))) 4 (58 + 7 * σ 0 1 + 2 + u) (nI (σ 9 (4 * b + u)))) 4 (58 + 7 * b + 2 + u) 0) 4 1 (g' 4 1 + 1)) := by
    intro g'
    rw [f_X8_split_84, if_pos (show (7 : Int32) ≤ nI 7 from by decide), show (0 : Int32) = nI 0 from rfl, m_of _ (by omega) (by decide), bd_s, Nat.add_zero]
    simp (disch := omega) only [lt_s2, L58, L7, pk_mul, nI_add, ck_nI, cl_nI, Nat.zero_add, L1]
    rw [m_of _ (by omega) (by decide), bd_s]
    simp (disch := omega) only [lt_s2, L2, pk_mul, nI_add, ck_nI, cl_nI, Nat.zero_add]
    rw [hs_place g' 4 _ (58 + 7 * b + 1) _ (by omega)]
    simp (disch := omega) only [hs_place]
    rfl
  have hst : ∀ (f t : Nat) (g' : AH), t < 7 → f_X8_split_84 0 (f + 1) (nI b) (nI u) (nI (σ 9 (4 * b + u))) (nI (σ 0 1)) (nI t) g' = f_X8_split_84 0 f (nI b) (nI u) (nI (σ 9 (4 * b + u))) (nI (σ 0 1)) (nI (t + 1)) (hset g' 4 (58 + 7 * σ 0 1 + t) 0) := by
    intro f t g' ht
    rw [f_X8_split_84, if_neg (show ¬ (7 : Int32) ≤ nI t from nI_ge (b := 7) ht (by decide))]
    rw [lt_s2, L58, L7, pk_mul, nI_add, nI_add, ck_nI _ (by omega) (by decide), cl_nI (by omega), lt_s2, lt_s2, L1, nI_add, Nat.zero_add]
  rw [hk, show k + 8 = k + 1 + 1 + 1 + 1 + 1 + 1 + 1 + 1 from rfl, show (0 : Int32) = nI 0 from rfl, hst _ 0 _ (by decide), hst _ 1 _ (by decide), hst _ 2 _ (by decide), hst _ 3 _ (by decide), hst _ 4 _ (by decide), hst _ 5 _ (by decide), hst _ 6 _ (by decide), hz]
  rw [hset_as g, hset_hput, hset_hput, hset_hput, hset_hput, hset_hput, hset_hput, hput_self, hset_hput, hset_hput, hset_hput, hset_hput, hset_hput, Nat.add_zero]
  rw [← mspl_e (g 4) (nI (σ 7 b)) (nI (σ 8 b)) (nI (σ 9 (4 * b + u))) hb hu]
  have eu : ∀ j, j < 58 + 7 * σ 0 1 → upd (upd (upd (upd (upd (upd (upd (g 4) (58 + 7 * σ 0 1) 0) (58 + 7 * σ 0 1 + 1) 0) (58 + 7 * σ 0 1 + 2) 0) (58 + 7 * σ 0 1 + 3) 0) (58 + 7 * σ 0 1 + 4) 0) (58 + 7 * σ 0 1 + 5) 0) (58 + 7 * σ 0 1 + 6) 0 j = g 4 j := fun j hj => by
    rw [pk_un (by omega), pk_un (by omega), pk_un (by omega), pk_un (by omega), pk_un (by omega), pk_un (by omega), pk_un (by omega)]
  rw [eu _ (by omega), eu _ (by omega), eu _ (by omega), cm.1, cm.2.1, hM.2.1, L1, nI_add]
