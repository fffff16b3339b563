-- bridge
theorem read_start {hx hm : AH} {n : Nat} {V : Nat → Nat} (hX : XT hx n V) (hM : MT hm n V) (x4 : hx 5 4 = 0) (m14 : hm 0 14 = 0) (m18 : hm 0 18 = 0) : ∃ hx2 hm2 s2 e2 k2, f_X6_step 5 hx = some ((), hx2) ∧ f_X8_next 0 hm = some ((), hm2) ∧ PP hx2 hm2 n V s2 e2 k2 ∧ GX hx hx2 ∧ GM hm hm2 := by
  obtain ⟨s, hs⟩ := nI_all (hx 5 3)
  obtain ⟨k, hk⟩ := nI_all (hx 5 2)
  obtain ⟨a, ha⟩ := nI_all (hm 0 16)
  obtain ⟨b, hb⟩ := nI_all (hm 0 15)
  obtain ⟨c, hc⟩ := nI_all (hm 0 17)
  have ex := XH_id (e := 0) hs x4 hk
  have em := MH_id (c := 0) ha m14 hb hc
  have en : 0 ≤ n := Nat.zero_le n
  refine ⟨XH hx (tks V n 0) (tke V n 0) (tkk V n 0), MH hm (tks V n 0) (tke V n 0) (mk5 (tkk V n 0)) (tke V n 0), tks V n 0, tke V n 0, tkk V n 0, ?_, ?_, ⟨?_, ?_, tk_f V en, XH_r3 _ _ _ _, XH_r4 _ _ _ _, XH_r2 _ _ _ _, MH_r16 _ _ _ _ _, MH_r14 _ _ _ _ _, MH_r15 _ _ _ _ _, MH_r17 _ _ _ _ _, ?_⟩, ?_, ?_⟩
  · have := x_step hX s 0 k en
    rw [← ex] at this
    exact this
  · have := m_next hM a 0 b c en
    rw [← em] at this
    exact this
  · exact ⟨hX.1, by rw [XH_r1]; exact hX.2.1, fun j hj => ⟨(hX.2.2 j hj).1, by rw [XH_c _ _ _ _ (show 6 ≠ 5 by decide)]; exact (hX.2.2 j hj).2⟩⟩
  · exact ⟨hM.1, by rw [MH_r _ _ _ _ _ (by decide)]; exact hM.2.1, fun j hj => ⟨(hM.2.2 j hj).1, by rw [MH_c _ _ _ _ _ (show 7 ≠ 0 by decide)]; exact (hM.2.2 j hj).2⟩⟩
  · rw [MH_r _ _ _ _ _ (by decide)]; exact m18
  · intro c j q
    by_cases hc : c = 5
    · have := q hc
      subst hc
      unfold XH
      rw [hput_self, if_neg this.2.1, if_neg this.2.2, if_neg this.1]
    · rw [XH_c _ _ _ _ hc]
  · intro c j q
    by_cases hc : c = 0
    · have := q hc
      subst hc
      exact MH_r _ _ _ _ _ (by omega)
    · rw [MH_c _ _ _ _ _ hc]
/-- reading: both read the same, or find the same fault -/
theorem jread {hx hm : AH} {n : Nat} {V : Nat → Nat} (hX : XT hx n V) (hM : MT hm n V) (m14 : hm 0 14 = 0) (m18 : hm 0 18 = 0) : (∃ hx2 hm2 a b, f_X4_read 7 5 hx = some (1, hx2) ∧ (bd (f_X8_next 0 hm) (fun _ h => f_X8_bridge_11 0 fu 0 h)) = f_X8_bridge_106 0 hm2 ∧ hm2 0 18 = 0 ∧ a ≤ 6 ∧ b ≤ 6 ∧ WFs (rdσ (hm2 5) a b) ∧ CQ hx2 8 (rdσ (hm2 5) a b) ∧ MR (hm2 5) (rdσ (hm2 5) a b) ∧ FX hx hx2 ∧ FM hm hm2) ∨ (∃ hx2 hm2 g s', f_X4_read 7 5 hx = some (0, hx2) ∧ (bd (f_X8_next 0 hm) (fun _ h => f_X8_bridge_11 0 fu 0 h)) = some (-1000100 - nI s', hset hm2 0 12 (nI g)) ∧ XF hx2 g s' ∧ FX hx hx2 ∧ FM hm hm2) := by
  obtain ⟨h1, c1, c2, c3, c4, c5, c6, c7, c8, c9⟩ := x_clearB hx
  have fxa : FX hx (hset h1 5 4 0) := fun c j q m => by rw [hs_ne (by omega), c2 c j (by omega) (by omega)]
  have hX1 : XT (hset h1 5 4 0) n V := by
    refine ⟨hX.1, ?_, fun j hj => ⟨(hX.2.2 j hj).1, ?_⟩⟩
    · rw [hs_ne (by omega), c2 5 1 (by decide) (by decide)]; exact hX.2.1
    · rw [hs_ne (by omega), c2 6 j (by decide) (by decide)]; exact (hX.2.2 j hj).2
  obtain ⟨hx2, hm2, s2, e2, k2, j1, j2, j3, j4, j5⟩ := read_start hX1 hM (hs_self _ _ _ _) m14 m18
  have fx2 : FX hx hx2 := FX_t fxa (GX_F j4)
  have er : f_X6_rewind 5 h1 = some ((), hx2) := by
    unfold f_X6_rewind
    rw [lt_s2, j1, bd_s]
  unfold f_X4_read
  rw [show (7 + 1 : Nat) = 8 from rfl, c1, bd_s, er, bd_s, j2, bd_s, show f_X8_bridge_11 0 fu 0 hm2 = _ from m_b11 100 fu 0 hm2 (by decide) (fu_ge _ (by decide))]
  have z5 : ∀ j, j < 100 → (hput hm2 5 (fun j => if 0 ≤ j ∧ j < 100 then 0 else hm2 5 j)) 5 j = 0 := fun j hj => by rw [hput_self, if_pos ⟨Nat.zero_le j, hj⟩]
  have zc : ∀ c, c ≠ 5 → (hput hm2 5 (fun j => if 0 ≤ j ∧ j < 100 then 0 else hm2 5 j)) c = hm2 c := fun c hc => hput_ne _ _ hc
  generalize hput hm2 5 (fun j => if 0 ≤ j ∧ j < 100 then 0 else hm2 5 j) = hm3 at z5 zc
  have hP3 : PP hx2 hm3 n V s2 e2 k2 := PP_congr j3 rfl rfl (zc 0 (by decide)) (zc 7 (by decide))
  have fm3 : FM hm hm3 := FM_t (GM_F j5) (fun c j q _ => by rw [zc c q])
  rw [f_X8_bridge_11, if_pos (show (100 : Int32) ≤ nI 100 by decide)]
  rcases jtide hP3 with ⟨hx4, hm4, s4, e4, k4, t1, t2, t3, t4, t5, t6⟩ | ⟨hx4, hm4, t1, t2, t3⟩
  rotate_left
  · obtain ⟨⟨g, s', e', F1, F2⟩, F3, F4⟩ := t3
    refine Or.inr ⟨hx4, hm4, g, s', ?_, ?_, F1, FX_t fx2 F3, FM_t fm3 F4⟩
    · rw [t1, bd_s, if_pos rfl]
    · rw [t2, bd_s, mf_name F2, bd_s, if_neg (by decide), mf_bad F2, bd_s, mf_arches F2 (fu_ge 0 (by decide))]
  have fx4 : FX hx hx4 := FX_t fx2 (qTX_F t5)
  have fm4 : FM hm hm4 := FM_t fm3 (qTM_F t6)
  rw [t1, bd_s, if_neg n10, t2, bd_s]
  obtain ⟨x, hx56, w1, w2⟩ := jw t3
  have ew := w2 1 (by decide)
  unfold f_X4_readArches
  rw [ew, bd_s, w1, bd_s]
  have lgw := lg_w hx56 (show CW 1 < 2 ^ 56 by decide)
  by_cases c : x = CW 1
  rotate_left
  · have fl := bad_Fl t3 (g := 1) (by decide) (by decide)
    have hF := BH_M t3 (g := 1) (by decide) (by decide)
    refine Or.inr ⟨hset hx4 7 1 (nI 1), BH hm4 1, 1, s4, ?_, ?_, ⟨hs_self _ _ _ _, by rw [hs_ne (by omega)]; exact t3.2.2.2.1⟩, FX_t fx4 fl.2.1, FM_t fm4 fl.2.2⟩
    · rw [if_neg c, if_n0, x_faulty, bd_s, gz_0, bd_s, if_pos rfl]
      rfl
    · rw [if_neg (show ¬ lg_cmp (lN x) 1634886504 = 0 from fun z => c (lgw.mp z)), show (1 : Int32) = nI 1 from rfl, m_bad (P18 t3), bd_s, mf_arches hF (fu_ge 0 (by decide))]
  rw [if_pos c, if_n1, if_pos (show lg_cmp (lN x) 1634886504 = 0 from lgw.mpr c), show (0 : Int32) = nI 0 from rfl]
  have x81 : hx4 8 1 = nI 0 := by rw [t5 8 1 (by omega) (by omega), j4 8 1 (by omega), hs_ne (by omega), c3]; rfl
  have m50 : hm4 5 0 = nI 0 := by rw [t6 5 0 (by omega) (by omega), z5 0 (by decide)]; rfl
  rcases jarches 6 fu fu 0 s4 e4 k4 hx4 hm4 (by decide) (fu_ge _ (by decide)) (fu_ge _ (by decide)) t3 x81 m50 (fun i hi => absurd hi (Nat.not_lt_zero i)) with ⟨hx5, hm5, s5, e5, k5, a, a1, a2, a3, a4, a5, a6, a7, a8, a9⟩ | ⟨hx5, hm5, g, s', a1, a2, a3, a4, a5⟩
  rotate_left
  · refine Or.inr ⟨hx5, hm5, g, s', ?_, a2, a3, FX_t fx4 a4, FM_t fm4 a5⟩
    rw [a1, bd_s]
    rfl
  have fx5 : FX hx hx5 := FX_t fx4 (fun c j q m => a8 c j (by omega) (by omega) m)
  have fm5 : FM hm hm5 := FM_t fm4 (fun c j q m => a9 c j (fun z => absurd z q) m)
  have x82 : hx5 8 2 = nI 0 := by rw [a8 8 2 (by omega) (by omega) (by omega), t5 8 2 (by omega) (by omega), j4 8 2 (by omega), hs_ne (by omega), c4]; rfl
  have m51 : hm5 5 1 = nI 0 := by rw [a9 5 1 (by omega) (by omega), t6 5 1 (by omega) (by omega), z5 1 (by decide)]; rfl
  rw [a1, bd_s, if_neg (show ¬ (1 : Int32) = nI 0 from n10), a2]
  unfold f_X4_readBoats
  rw [show (0 : Int32) = nI 0 from rfl]
  rcases jboats 6 fu fu 0 s5 e5 k5 hx5 hm5 (by decide) (fu_ge _ (by decide)) (fu_ge _ (by decide)) a3 x82 m51 (fun i hi => absurd hi (Nat.not_lt_zero i)) with ⟨hx6, hm6, b, b1, b2, b3, b4, b5, b6, b7, b8, b9⟩ | ⟨hx6, hm6, g, s', b1, b2, b3, b4, b5⟩
  rotate_left
  · refine Or.inr ⟨hx6, hm6, g, s', ?_, b2, b3, FX_t fx5 b4, FM_t fm5 b5⟩
    rw [b1, bd_s]
    rfl
  have fx6 : FX hx (hset hx6 8 0 1) := FX_t (FX_t fx5 (fun c j q m => b8 c j (by omega) (by omega) m)) (FX_s (by decide))
  have fm6 : FM hm hm6 := FM_t fm5 (fun c j q m => b9 c j (fun z => absurd z q) m)
  have X8 : ∀ j, 2 < j → j < 7 → h1 8 j = 0 → hset hx6 8 0 1 8 j = 0 := fun j q1 q2 q3 => by
    rw [hs_ne (by omega), b8 8 j (by omega) (by omega) (by omega), a8 8 j (by omega) (by omega) (by omega), t5 8 j (by omega) (by omega), j4 8 j (by omega), hs_ne (by omega), q3]
  have M5 : ∀ j, j < 100 → j ≠ 0 → j ≠ 1 → (j < 4 ∨ 16 ≤ j) → (j < 16 ∨ 58 ≤ j ∨ 4 ≤ (j - 16) % 7) → (j < 58 ∨ (j - 58) % 7 = 6) → hm6 5 j = 0 := fun j q0 q1 q2 q3 q4 q5 => by
    rw [b9 5 j (by omega) (by omega), a9 5 j (by omega) (by omega), t6 5 j (by omega) (by omega), z5 j q0]
  have hd := read_data (hx := hset hx6 8 0 1) (hm := hm6) a4 b4 (hs_self _ _ _ _) (by rw [hs_ne (by omega), b8 8 1 (by omega) (by omega) (by omega), a5]) (by rw [hs_ne (by omega), b5]) (X8 3 (by decide) (by decide) c5) (X8 4 (by decide) (by decide) c6) (X8 5 (by decide) (by decide) c7) (X8 6 (by decide) (by decide) c8) (fun j hj => by rw [hs_ne (by omega), b8 16 j (by omega) (by omega) (by omega), a8 16 j (by omega) (by omega) (by omega), t5 16 j (by omega) (by omega), j4 16 j (by omega), hs_ne (by omega), c9 j hj]) (by rw [b9 5 0 (by omega) (by omega), a6]) b6 (M5 2 (by omega) (by omega) (by omega) (by omega) (by omega) (by omega)) (M5 3 (by omega) (by omega) (by omega) (by omega) (by omega) (by omega)) (fun j hj => ⟨M5 _ (by omega) (by omega) (by omega) (by omega) (by omega) (by omega), M5 _ (by omega) (by omega) (by omega) (by omega) (by omega) (by omega), M5 _ (by omega) (by omega) (by omega) (by omega) (by omega) (by omega)⟩) (fun j hj => M5 _ (by omega) (by omega) (by omega) (by omega) (by omega) (by omega)) (fun t ht => by
      obtain ⟨v, v1, v2, v3⟩ := t4 t ht
      exact ⟨v, v1, by rw [hs_ne (by omega), b8 9 t (by omega) (by omega) (by omega), a8 9 t (by omega) (by omega) (by omega), v2], by rw [b9 5 (4 + t) (by omega) (by omega), a9 5 (4 + t) (by omega) (by omega), v3]⟩) (fun i hi => by
      obtain ⟨u, o, t, l, p1, p2, p3, p4, p5, p6, p7, p8, p9, p10, p11, p12, p13⟩ := a7 i hi
      exact ⟨u, o, t, l, p1, p2, p3, p4, p5, by rw [hs_ne (by omega), b8 10 _ (by omega) (by omega) (by omega), p6], by rw [hs_ne (by omega), b8 10 _ (by omega) (by omega) (by omega), p7], by rw [hs_ne (by omega), b8 11 _ (by omega) (by omega) (by omega), p8], by rw [hs_ne (by omega), b8 12 _ (by omega) (by omega) (by omega), p9], by rw [b9 5 _ (by omega) (by omega), p10], by rw [b9 5 _ (by omega) (by omega), p11], by rw [b9 5 _ (by omega) (by omega), p12], by rw [b9 5 _ (by omega) (by omega), p13]⟩) (fun i hi => by
      obtain ⟨q, m, p1, p2, p3, p4, p5, p6, p7, p8⟩ := b7 i hi
      exact ⟨q, m, p1, p2, p3, by rw [hs_ne (by omega), p4], by rw [hs_ne (by omega), p5], p6, p7, fun t ht => by obtain ⟨v, v1, v2, v3⟩ := p8 t ht; exact ⟨v, v1, by rw [hs_ne (by omega), v2], v3⟩⟩)
  refine Or.inl ⟨hset hx6 8 0 1, hm6, a, b, ?_, b2, b3, a4, b4, hd.1, hd.2.1, hd.2.2, fx6, fm6⟩
  rw [b1, bd_s, if_neg (show ¬ (1 : Int32) = nI 0 from n10), gz_1, lt_s2]
theorem ok_bridge : OK2 Rel (fun h => f_X7_bridge 0 h) (fun h => f_X8_bridge 0 h) := by
  intro hx hm hR
  show ∃ r hx2 hm2, f_X7_bridge 0 hx = some (r, hx2) ∧ f_X8_bridge 0 hm = some (r, hm2) ∧ Rel hx2 hm2
  obtain ⟨n, hn, t1, t2, t3⟩ := hR.2.2.1
  have hX : XT hx n (fun j => (hm 7 j).toNatClampNeg) := by
    refine ⟨hn, t1, fun j hj => ?_⟩
    obtain ⟨v, v1, v2, v3⟩ := t3 j hj
    show (hm 7 j).toNatClampNeg < 256 ∧ hx 6 j = sb (hm 7 j).toNatClampNeg
    rw [v2, cl_nI (by omega)]
    exact ⟨v1, v3⟩
  obtain ⟨H, hH⟩ : ∃ H : AH, H = hset (hset (hset (hset (hset hm 0 0 0) 0 13 (hm 0 11)) 0 11 0) 0 14 0) 0 18 0 := ⟨_, rfl⟩
  have Hc : ∀ c, c ≠ 0 → H c = hm c := fun c hc => by rw [hH, hs_cell _ _ _ _ _ hc, hs_cell _ _ _ _ _ hc, hs_cell _ _ _ _ _ hc, hs_cell _ _ _ _ _ hc, hs_cell _ _ _ _ _ hc]
  have H0 : ∀ j, j ≠ 0 → j ≠ 11 → j ≠ 13 → j ≠ 14 → j ≠ 18 → H 0 j = hm 0 j := fun j q1 q2 q3 q4 q5 => by rw [hH, hs_place _ _ _ _ _ q5, hs_place _ _ _ _ _ q4, hs_place _ _ _ _ _ q2, hs_place _ _ _ _ _ q3, hs_place _ _ _ _ _ q1]
  have H13 : H 0 13 = nI n := by rw [hH, hs_ne (by omega), hs_ne (by omega), hs_ne (by omega), hs_self, t2]
  have H11 : H 0 11 = 0 := by rw [hH, hs_ne (by omega), hs_ne (by omega), hs_self]
  have H14 : H 0 14 = 0 := by rw [hH, hs_ne (by omega), hs_self]
  have H18 : H 0 18 = 0 := by rw [hH, hs_self]
  have hM : MT H n (fun j => (hm 7 j).toNatClampNeg) := by
    refine ⟨hn, H13, fun j hj => ?_⟩
    obtain ⟨v, v1, v2, v3⟩ := t3 j hj
    show (hm 7 j).toNatClampNeg < 256 ∧ H 7 j = nI (hm 7 j).toNatClampNeg
    rw [Hc 7 (by decide), v2, cl_nI (by omega)]
    exact ⟨v1, rfl⟩
  have eM : f_X8_bridge 0 hm = bd (f_X8_next 0 H) (fun _ h => f_X8_bridge_11 0 fu 0 h) := by
    unfold f_X8_bridge f_X8_begin
    simp only [lt_s2]
    rw [hs_ne (h := hm) (c := 0) (j := 11) (by omega), ← hH]
    cases f_X8_next 0 H with
    | none => rfl
    | some p => rfl
  rw [eM]
  unfold f_X7_bridge
  rw [Nat.zero_add, Nat.zero_add, Nat.zero_add]
  rcases jread hX hM H14 H18 with ⟨hx2, hm2, a, b, r1, r2, r3, r4, r5, r6, r7, r8, r9, r10⟩ | ⟨hx2, hm2, g, s', r1, r2, r3, r4, r5⟩
  · generalize hσ : rdσ (hm2 5) a b = σ at r6 r7 r8
    have s04 : σ 0 4 = 1 := by rw [← hσ]; rfl
    rw [r1, bd_s, r2]
    unfold f_X6_tokenStart f_X6_clear f_X4_result
    rw [bd_s, lt_s2, bd_s, if_neg n10, bd_s]
    have hRr : Rel (hset hx2 5 1 0) hm2 := by
      refine rel_gen hR (fun c c0 c5 c7 c49 => ?_) (fun c c0 c5 c8 => ?_) ?_ ?_ ?_ ?_ ?_ ?_ (by rw [hs_cell _ _ _ _ _ (by decide), show hx2 56 = hx 56 from funext fun j => r9 56 j (by omega) (by omega)]; exact hR.2.2.2.2.2.2.2.2)
      · rw [hs_cell _ _ _ _ _ c5]
        exact funext fun j => r9 c j (by omega) (fun z => absurd z c5)
      · exact (funext fun j => r10 c j c5 (fun z => absurd z c0)).trans (Hc c c0)
      · rw [hs_ne (by omega), r9 0 10 (by omega) (by omega), r10 0 1 (by omega) (by omega), H0 1 (by decide) (by decide) (by decide) (by decide) (by decide)]
        exact hR.1.1
      · rw [hs_ne (by omega), r9 0 9 (by omega) (by omega), r10 0 12 (by omega) (by omega), H0 12 (by decide) (by decide) (by decide) (by decide) (by decide)]
        exact hR.1.2
      · rw [r10 0 7 (by omega) (by omega), H0 7 (by decide) (by decide) (by decide) (by decide) (by decide)]
      · rw [r10 0 9 (by omega) (by omega), H0 9 (by decide) (by decide) (by decide) (by decide) (by decide)]
      · rw [r10 0 33 (by omega) (by omega), H0 33 (by decide) (by decide) (by decide) (by decide) (by decide)]
      · rw [hs_self, r10 0 11 (by omega) (by omega), H11]
        exact ⟨0, by decide, rfl, rfl, fun j hj => absurd hj (Nat.not_lt_zero j)⟩
    have hC : CQ (hset hx2 5 1 0) 8 σ := by
      unfold CQ
      rw [hs_cell _ _ _ _ 8 (by decide), hs_cell _ _ _ _ (8 + 1) (by decide), hs_cell _ _ _ _ (8 + 2) (by decide), hs_cell _ _ _ _ (8 + 3) (by decide), hs_cell _ _ _ _ (8 + 4) (by decide), hs_cell _ _ _ _ (8 + 5) (by decide), hs_cell _ _ _ _ (8 + 6) (by decide), hs_cell _ _ _ _ (8 + 7) (by decide), hs_cell _ _ _ _ (8 + 8) (by decide)]
      exact r7
    obtain ⟨h2, q1, q2, q3⟩ := x_become (q := 17) (r := 8) (by decide) r6 hC
    rw [show (7 + 1 : Nat) = 8 from rfl, q1, bd_s]
    unfold f_X0_forget f_X8_bridge_106
    rw [lt_s2, bd_s, if_pos (show hm2 0 18 ≤ 0 by rw [r3]; decide), gz_1, lt_s2, lt_s2, show (0 : Int32) = nI 0 from rfl, show (1 : Int32) = nI 1 from rfl]
    rw [m_b141 100 fu 0 _ (by decide) (fu_ge _ (by decide))]
    obtain ⟨σ0, wσ, hCσ, hMσ, e7σ, o, nn, ho, hnn, e4, e5, e9, hs1, hch⟩ := hRr.2.2.2.1
    have vx : hset h2 44 5 (nI 0) 17 1 = nI (σ 0 0) := by rw [hs_ne (by omega)]; exact q3.2.1
    have vm : (hput (hset (hset hm2 0 7 (nI 1)) 0 9 (nI 0)) 4 (fun j => if 0 ≤ j ∧ j < 100 then hset (hset hm2 0 7 (nI 1)) 0 9 (nI 0) 5 j else hset (hset hm2 0 7 (nI 1)) 0 9 (nI 0) 4 j)) 4 0 = nI (σ 0 0) := by
      rw [hput_self, if_pos (by decide), hs_ne (by omega), hs_ne (by omega)]
      exact r8.1
    rw [vx, vm]
    refine ⟨_, _, _, rfl, rfl, rel_act (τ := σ) hRr (fun c c1 c2 => ?_) (fun c c0 c4 c6 => ?_) (fun j j0 j7 j9 => ?_) ⟨r6, ?_, ?_, ?_, o, 0, ho, by omega, ?_, ?_, ?_, fun z => absurd z (Nat.lt_irrefl 0), trivial⟩ s04⟩
    · rw [hs_cell _ _ _ _ _ (by omega), q2 c (by omega)]
    · rw [hput_ne _ _ c4, hs_cell _ _ _ _ _ c0, hs_cell _ _ _ _ _ c0]
    · rw [hput_ne _ _ (by decide), hs_place _ _ _ _ _ j9, hs_place _ _ _ _ _ j7]
    · rw [hs_cell _ _ _ _ 17 (by decide), hs_cell _ _ _ _ 18 (by decide), hs_cell _ _ _ _ 19 (by decide), hs_cell _ _ _ _ 20 (by decide), hs_cell _ _ _ _ 21 (by decide), hs_cell _ _ _ _ 22 (by decide), hs_cell _ _ _ _ 23 (by decide), hs_cell _ _ _ _ 24 (by decide), hs_cell _ _ _ _ 25 (by decide)]
      exact q3
    · rw [hput_self]
      refine MR_congr r6 (fun j hj => ?_) r8
      rw [if_pos ⟨Nat.zero_le j, hj⟩, hs_ne (by omega), hs_ne (by omega)]
    · rw [hput_ne _ _ (by decide), hs_ne (by omega), hs_self, s04]
    · rw [hs_place _ _ _ _ _ (by decide), q2 44 (by decide), e4]
    · rw [hs_self]
    · rw [hput_ne _ _ (by decide), hs_self]
  · rw [r1, bd_s, r2]
    unfold f_X6_tokenStart f_X6_clear f_X4_faultNumber
    rw [bd_s, lt_s2, bd_s, if_pos rfl, bd_s, lt_s2, r3.2, hs_cell _ _ _ _ 7 (by decide), r3.1]
    refine ⟨_, _, _, rfl, rfl, rel_gen hR (fun c c0 c5 c7 c49 => ?_) (fun c c0 c5 c8 => ?_) ?_ ?_ ?_ ?_ ?_ ?_ (by rw [hs_cell _ _ _ _ _ (by decide), hs_cell _ _ _ _ _ (by decide), show hx2 56 = hx 56 from funext fun j => r4 56 j (by omega) (by omega)]; exact hR.2.2.2.2.2.2.2.2)⟩
    · rw [hs_cell _ _ _ _ _ c0, hs_cell _ _ _ _ _ c5]
      exact funext fun j => r4 c j (by omega) (fun z => absurd z c5)
    · rw [hs_cell _ _ _ _ _ c0]
      exact (funext fun j => r5 c j c5 (fun z => absurd z c0)).trans (Hc c c0)
    · rw [hs_ne (by omega), hs_ne (by omega), hs_ne (by omega), r4 0 10 (by omega) (by omega), r5 0 1 (by omega) (by omega), H0 1 (by decide) (by decide) (by decide) (by decide) (by decide)]
      exact hR.1.1
    · rw [hs_self, hs_self]
    · rw [hs_ne (by omega), r5 0 7 (by omega) (by omega), H0 7 (by decide) (by decide) (by decide) (by decide) (by decide)]
    · rw [hs_ne (by omega), r5 0 9 (by omega) (by omega), H0 9 (by decide) (by decide) (by decide) (by decide) (by decide)]
    · rw [hs_ne (by omega), r5 0 33 (by omega) (by omega), H0 33 (by decide) (by decide) (by decide) (by decide) (by decide)]
    · rw [hs_ne (by omega), hs_self, hs_ne (by omega), r5 0 11 (by omega) (by omega), H11]
      exact ⟨0, by decide, rfl, rfl, fun j hj => absurd hj (Nat.not_lt_zero j)⟩
