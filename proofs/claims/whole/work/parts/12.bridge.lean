theorem dX2_markWent_0 : decode cX2_markWent 0 = .ok (.iload_n 1, 1) := by decide +kernel
theorem dX2_markWent_1 : decode cX2_markWent 1 = .ok (.bipush 12, 2) := by decide +kernel
theorem dX2_markWent_3 : decode cX2_markWent 3 = .ok (.imul, 1) := by decide +kernel
theorem dX2_markWent_4 : decode cX2_markWent 4 = .ok (.aload_n 0, 1) := by decide +kernel
theorem dX2_markWent_5 : decode cX2_markWent 5 = .ok (.getfield 47, 3) := by decide +kernel
theorem dX2_markWent_8 : decode cX2_markWent 8 = .ok (.iadd, 1) := by decide +kernel
theorem dX2_markWent_9 : decode cX2_markWent 9 = .ok (.istore 4, 2) := by decide +kernel
theorem dX2_markWent_11 : decode cX2_markWent 11 = .ok (.aload_n 0, 1) := by decide +kernel
theorem dX2_markWent_12 : decode cX2_markWent 12 = .ok (.getfield 33, 3) := by decide +kernel
theorem dX2_markWent_15 : decode cX2_markWent 15 = .ok (.iload 4, 2) := by decide +kernel
theorem dX2_markWent_17 : decode cX2_markWent 17 = .ok (.aload_n 0, 1) := by decide +kernel
theorem dX2_markWent_18 : decode cX2_markWent 18 = .ok (.getfield 33, 3) := by decide +kernel
theorem dX2_markWent_21 : decode cX2_markWent 21 = .ok (.iload 4, 2) := by decide +kernel
theorem dX2_markWent_23 : decode cX2_markWent 23 = .ok (.iaload, 1) := by decide +kernel
theorem dX2_markWent_24 : decode cX2_markWent 24 = .ok (.iload_n 2, 1) := by decide +kernel
theorem dX2_markWent_25 : decode cX2_markWent 25 = .ok (.iload_n 3, 1) := by decide +kernel
theorem dX2_markWent_26 : decode cX2_markWent 26 = .ok (.invokestatic 87, 3) := by decide +kernel
theorem dX2_markWent_29 : decode cX2_markWent 29 = .ok (.iastore, 1) := by decide +kernel
theorem dX2_markWent_30 : decode cX2_markWent 30 = .ok (.return_, 1) := by decide +kernel
theorem yv_X2_markWent : YV yX2_markWent cX2_markWent 5 none 3 := ⟨m632, ms12, m5, m633, ⟨by decide +kernel, by decide +kernel, by decide +kernel⟩, by decide⟩
noncomputable def f_X2_markWent (q : Nat) (x1 : Int32) (x2 : Int32) (x3 : Int32) (h : AH) : Option (Unit × AH) := lt (((x1 * 12) + (h q 3))) (fun v_1 => ck v_1 24 (bd (f_X7_withBit (h (q + 8) (v_1 : Int32).toNatClampNeg) x2 x3 h) (fun v_5 h_4 => ck v_1 24 (lt (hset h_4 (q + 8) (v_1 : Int32).toNatClampNeg v_5) (fun h_6 => some ((), h_6))))))
set_option maxRecDepth 20000 in
set_option maxHeartbeats 4000000 in
theorem ct_X2_markWent (l : Launch) (g : GC) {q : Nat} (hq : (gL g)[q]? = some (.inl 2)) (x1 : Int32) (x2 : Int32) (x3 : Int32) : Ct l yX2_markWent cX2_markWent 5 none 2 [.ref (gad g q), .int x1, .int x2, .int x3] g mkU (fun h => f_X2_markWent q x1 x2 x3 h) := by
  refine Ct.of (by decide +kernel) (Nat.le_of_ble_eq_true rfl) (fun z A h _ F => ?_)
  show Snd z 5 g A (QF z g A mkU) 0 [(0, .ref (gad g q)), (1, .int x1), (2, .int x2), (3, .int x3)] [] h (f_X2_markWent q x1 x2 x3 h)
  unfold f_X2_markWent
  refine s_iload_n F dX2_markWent_0 rfl 1 rfl ?_
  refine s_bipush F (v := 12) dX2_markWent_1 (by decide) ?_
  refine s_imul F dX2_markWent_3 ?_
  refine s_aload_n F dX2_markWent_4 rfl 0 rfl ?_
  refine s_geti F ciX2 3 hq (by decide) rfl rfl m89 dX2_markWent_5 ?_
  refine s_iadd F dX2_markWent_8 ?_
  refine s_leti (fun v_1 => ?_)
  refine s_istore F (lv' := [(4, .int v_1), (0, .ref (gad g q)), (1, .int x1), (2, .int x2), (3, .int x3)]) dX2_markWent_9 (by decide) rfl ?_
  refine s_aload_n F dX2_markWent_11 rfl 1 rfl ?_
  have hw_2 := wf_ref F.2.2.2.2.2.2.1 hq 14 8 (.inr (0, 24)) rfl
  refine s_getr F ciX2 14 8 (.inr (0, 24)) hq (by decide) rfl rfl m120 dX2_markWent_12 ?_
  refine s_iload F dX2_markWent_15 0 rfl ?_
  refine s_aload_n F dX2_markWent_17 rfl 1 rfl ?_
  have hw_3 := wf_ref F.2.2.2.2.2.2.1 hq 14 8 (.inr (0, 24)) rfl
  refine s_getr F ciX2 14 8 (.inr (0, 24)) hq (by decide) rfl rfl m120 dX2_markWent_18 ?_
  refine s_iload F dX2_markWent_21 0 rfl ?_
  refine s_iald F hw_3 dX2_markWent_23 ?_
  refine s_iload_n F dX2_markWent_24 rfl 3 rfl ?_
  refine s_iload_n F dX2_markWent_25 rfl 4 rfl ?_
  refine s_callSNi (f := fun hh => f_X7_withBit (h (q + 8) (v_1 : Int32).toNatClampNeg) x2 x3 hh) (As := [.int (h (q + 8) (v_1 : Int32).toNatClampNeg), .int x2, .int x3]) F ys_X7_withBit (ct_X7_withBit z.2.1 g (h (q + 8) (v_1 : Int32).toNatClampNeg) x2 x3) (by decide) (List.mem_of_getElem? (i := 2) rfl) rfl rfl (Nat.le_of_ble_eq_true rfl) dX2_markWent_26 (fun v_5 h_4 e_v_5 => ?_)
  refine s_iast F hw_2 dX2_markWent_29 ?_
  refine s_letH (fun h_6 => ?_)
  exact s_vret F dX2_markWent_30
theorem dX2_sideOf_0 : decode cX2_sideOf 0 = .ok (.aload_n 0, 1) := by decide +kernel
theorem dX2_sideOf_1 : decode cX2_sideOf 1 = .ok (.getfield 24, 3) := by decide +kernel
theorem dX2_sideOf_4 : decode cX2_sideOf 4 = .ok (.iload_n 1, 1) := by decide +kernel
theorem dX2_sideOf_5 : decode cX2_sideOf 5 = .ok (.iaload, 1) := by decide +kernel
theorem dX2_sideOf_6 : decode cX2_sideOf 6 = .ok (.iconst 4, 1) := by decide +kernel
theorem dX2_sideOf_7 : decode cX2_sideOf 7 = .ok (.if_icmp .lt 7, 3) := by decide +kernel
theorem dX2_sideOf_10 : decode cX2_sideOf 10 = .ok (.iconst 1, 1) := by decide +kernel
theorem dX2_sideOf_11 : decode cX2_sideOf 11 = .ok (.goto 4, 3) := by decide +kernel
theorem dX2_sideOf_14 : decode cX2_sideOf 14 = .ok (.iconst 0, 1) := by decide +kernel
theorem dX2_sideOf_15 : decode cX2_sideOf 15 = .ok (.ireturn, 1) := by decide +kernel
theorem yv_X2_sideOf : YV yX2_sideOf cX2_sideOf 2 (some .int) 1 := ⟨m600, m601, m5, m602, ⟨by decide +kernel, by decide +kernel, by decide +kernel⟩, by decide⟩
noncomputable def f_X2_sideOf (q : Nat) (x1 : Int32) (h : AH) : Option (Int32 × AH) := ck x1 6 (if (h (q + 5) (x1 : Int32).toNatClampNeg) < 4 then (some (0, h)) else (some (1, h)))
set_option maxRecDepth 20000 in
set_option maxHeartbeats 4000000 in
theorem ct_X2_sideOf (l : Launch) (g : GC) {q : Nat} (hq : (gL g)[q]? = some (.inl 2)) (x1 : Int32) : Ct l yX2_sideOf cX2_sideOf 2 (some .int) 1 [.ref (gad g q), .int x1] g mkI (fun h => f_X2_sideOf q x1 h) := by
  refine Ct.of (by decide +kernel) (Nat.le_of_ble_eq_true rfl) (fun z A h _ F => ?_)
  show Snd z 2 g A (QF z g A mkI) 0 [(0, .ref (gad g q)), (1, .int x1)] [] h (f_X2_sideOf q x1 h)
  unfold f_X2_sideOf
  refine s_aload_n F dX2_sideOf_0 rfl 0 rfl ?_
  have hw_1 := wf_ref F.2.2.2.2.2.2.1 hq 11 5 (.inr (0, 6)) rfl
  refine s_getr F ciX2 11 5 (.inr (0, 6)) hq (by decide) rfl rfl m110 dX2_sideOf_1 ?_
  refine s_iload_n F dX2_sideOf_4 rfl 1 rfl ?_
  refine s_iald F hw_1 dX2_sideOf_5 ?_
  refine s_iconst F (v := 4) dX2_sideOf_6 (by decide) ?_
  refine s_icmp_lt F 14 dX2_sideOf_7 (by decide) (fun _ => ?_) (fun _ => ?_)
  · refine s_iconst F (v := 0) dX2_sideOf_14 (by decide) ?_
    exact s_iret F dX2_sideOf_15
  · refine s_iconst F (v := 1) dX2_sideOf_10 (by decide) ?_
    refine s_goto F 15 dX2_sideOf_11 (by decide) ?_
    exact s_iret F dX2_sideOf_15
theorem dX2_comeBack_0 : decode cX2_comeBack 0 = .ok (.aload_n 0, 1) := by decide +kernel
theorem dX2_comeBack_1 : decode cX2_comeBack 1 = .ok (.aload_n 0, 1) := by decide +kernel
theorem dX2_comeBack_2 : decode cX2_comeBack 2 = .ok (.getfield 56, 3) := by decide +kernel
theorem dX2_comeBack_5 : decode cX2_comeBack 5 = .ok (.iload_n 1, 1) := by decide +kernel
theorem dX2_comeBack_6 : decode cX2_comeBack 6 = .ok (.iconst 0, 1) := by decide +kernel
theorem dX2_comeBack_7 : decode cX2_comeBack 7 = .ok (.invokestatic 87, 3) := by decide +kernel
theorem dX2_comeBack_10 : decode cX2_comeBack 10 = .ok (.putfield 56, 3) := by decide +kernel
theorem dX2_comeBack_13 : decode cX2_comeBack 13 = .ok (.aload_n 0, 1) := by decide +kernel
theorem dX2_comeBack_14 : decode cX2_comeBack 14 = .ok (.aload_n 0, 1) := by decide +kernel
theorem dX2_comeBack_15 : decode cX2_comeBack 15 = .ok (.iload_n 1, 1) := by decide +kernel
theorem dX2_comeBack_16 : decode cX2_comeBack 16 = .ok (.invokevirtual 118, 3) := by decide +kernel
theorem dX2_comeBack_19 : decode cX2_comeBack 19 = .ok (.iload_n 2, 1) := by decide +kernel
theorem dX2_comeBack_20 : decode cX2_comeBack 20 = .ok (.iconst 0, 1) := by decide +kernel
theorem dX2_comeBack_21 : decode cX2_comeBack 21 = .ok (.invokevirtual 128, 3) := by decide +kernel
theorem dX2_comeBack_24 : decode cX2_comeBack 24 = .ok (.aload_n 0, 1) := by decide +kernel
theorem dX2_comeBack_25 : decode cX2_comeBack 25 = .ok (.dup, 1) := by decide +kernel
theorem dX2_comeBack_26 : decode cX2_comeBack 26 = .ok (.getfield 50, 3) := by decide +kernel
theorem dX2_comeBack_29 : decode cX2_comeBack 29 = .ok (.iload_n 3, 1) := by decide +kernel
theorem dX2_comeBack_30 : decode cX2_comeBack 30 = .ok (.isub, 1) := by decide +kernel
theorem dX2_comeBack_31 : decode cX2_comeBack 31 = .ok (.putfield 50, 3) := by decide +kernel
theorem dX2_comeBack_34 : decode cX2_comeBack 34 = .ok (.return_, 1) := by decide +kernel
theorem yv_X2_comeBack : YV yX2_comeBack cX2_comeBack 4 none 3 := ⟨m666, m667, m5, m668, ⟨by decide +kernel, by decide +kernel, by decide +kernel⟩, by decide⟩
noncomputable def f_X2_comeBack (q : Nat) (x1 : Int32) (x2 : Int32) (x3 : Int32) (h : AH) : Option (Unit × AH) := bd (f_X7_withBit (h q 6) x1 0 h) (fun v_2 h_1 => lt (hset h_1 q 6 v_2) (fun h_3 => bd (f_X2_sideOf q x1 h_3) (fun v_5 h_4 => bd (f_X2_markWent q v_5 x2 0 h_4) (fun _ h_6 => lt (hset h_6 q 4 ((h_6 q 4) - x3)) (fun h_8 => some ((), h_8))))))
set_option maxRecDepth 20000 in
set_option maxHeartbeats 4000000 in
theorem ct_X2_comeBack (l : Launch) (g : GC) {q : Nat} (hq : (gL g)[q]? = some (.inl 2)) (x1 : Int32) (x2 : Int32) (x3 : Int32) : Ct l yX2_comeBack cX2_comeBack 4 none 3 [.ref (gad g q), .int x1, .int x2, .int x3] g mkU (fun h => f_X2_comeBack q x1 x2 x3 h) := by
  refine Ct.of (by decide +kernel) (Nat.le_of_ble_eq_true rfl) (fun z A h _ F => ?_)
  show Snd z 4 g A (QF z g A mkU) 0 [(0, .ref (gad g q)), (1, .int x1), (2, .int x2), (3, .int x3)] [] h (f_X2_comeBack q x1 x2 x3 h)
  unfold f_X2_comeBack
  refine s_aload_n F dX2_comeBack_0 rfl 0 rfl ?_
  refine s_aload_n F dX2_comeBack_1 rfl 0 rfl ?_
  refine s_geti F ciX2 6 hq (by decide) rfl rfl m97 dX2_comeBack_2 ?_
  refine s_iload_n F dX2_comeBack_5 rfl 1 rfl ?_
  refine s_iconst F (v := 0) dX2_comeBack_6 (by decide) ?_
  refine s_callSNi (f := fun hh => f_X7_withBit (h q 6) x1 0 hh) (As := [.int (h q 6), .int x1, .int 0]) F ys_X7_withBit (ct_X7_withBit z.2.1 g (h q 6) x1 0) (by decide) (List.mem_of_getElem? (i := 2) rfl) rfl rfl (Nat.le_of_ble_eq_true rfl) dX2_comeBack_7 (fun v_2 h_1 e_v_2 => ?_)
  refine s_put F ciX2 (k := 6) hq (by decide) rfl rfl rfl rfl m97 dX2_comeBack_10 ?_
  refine s_letH (fun h_3 => ?_)
  refine s_aload_n F dX2_comeBack_13 rfl 0 rfl ?_
  refine s_aload_n F dX2_comeBack_14 rfl 0 rfl ?_
  refine s_iload_n F dX2_comeBack_15 rfl 1 rfl ?_
  refine s_callVi (f := fun hh => f_X2_sideOf q x1 hh) (As := [.int x1]) F yv_X2_sideOf (ct_X2_sideOf z.2.1 g hq x1) (by decide) m599 hq rfl rfl rfl (Nat.le_of_ble_eq_true rfl) dX2_comeBack_16 (fun v_5 h_4 e_v_5 => ?_)
  refine s_iload_n F dX2_comeBack_19 rfl 2 rfl ?_
  refine s_iconst F (v := 0) dX2_comeBack_20 (by decide) ?_
  refine s_callVu (f := fun hh => f_X2_markWent q v_5 x2 0 hh) (As := [.int v_5, .int x2, .int 0]) F yv_X2_markWent (ct_X2_markWent z.2.1 g hq v_5 x2 0) (by decide) m630 hq rfl rfl rfl (Nat.le_of_ble_eq_true rfl) dX2_comeBack_21 (fun _ h_6 e_v_7 => ?_)
  refine s_aload_n F dX2_comeBack_24 rfl 0 rfl ?_
  refine s_dup F dX2_comeBack_25 rfl ?_
  refine s_geti F ciX2 4 hq (by decide) rfl rfl m92 dX2_comeBack_26 ?_
  refine s_iload_n F dX2_comeBack_29 rfl 3 rfl ?_
  refine s_isub F dX2_comeBack_30 ?_
  refine s_put F ciX2 (k := 4) hq (by decide) rfl rfl rfl rfl m92 dX2_comeBack_31 ?_
  refine s_letH (fun h_8 => ?_)
  exact s_vret F dX2_comeBack_34
theorem dX2_charterPlace_0 : decode cX2_charterPlace 0 = .ok (.iload_n 0, 1) := by decide +kernel
theorem dX2_charterPlace_1 : decode cX2_charterPlace 1 = .ok (.bipush 6, 2) := by decide +kernel
theorem dX2_charterPlace_3 : decode cX2_charterPlace 3 = .ok (.imul, 1) := by decide +kernel
theorem dX2_charterPlace_4 : decode cX2_charterPlace 4 = .ok (.iload_n 1, 1) := by decide +kernel
theorem dX2_charterPlace_5 : decode cX2_charterPlace 5 = .ok (.iadd, 1) := by decide +kernel
theorem dX2_charterPlace_6 : decode cX2_charterPlace 6 = .ok (.ireturn, 1) := by decide +kernel
theorem ys_X2_charterPlace : YS yX2_charterPlace cX2_charterPlace 2 (some .int) 2 := ⟨m470, m5, m471, ⟨by decide +kernel, by decide +kernel, by decide +kernel⟩, by decide⟩
noncomputable def f_X2_charterPlace (x0 : Int32) (x1 : Int32) (h : AH) : Option (Int32 × AH) := some (((x0 * 6) + x1), h)
set_option maxRecDepth 20000 in
set_option maxHeartbeats 4000000 in
theorem ct_X2_charterPlace (l : Launch) (g : GC) (x0 : Int32) (x1 : Int32) : Ct l yX2_charterPlace cX2_charterPlace 2 (some .int) 1 [.int x0, .int x1] g mkI (fun h => f_X2_charterPlace x0 x1 h) := by
  refine Ct.of (by decide +kernel) (Nat.le_of_ble_eq_true rfl) (fun z A h _ F => ?_)
  show Snd z 2 g A (QF z g A mkI) 0 [(0, .int x0), (1, .int x1)] [] h (f_X2_charterPlace x0 x1 h)
  unfold f_X2_charterPlace
  refine s_iload_n F dX2_charterPlace_0 rfl 0 rfl ?_
  refine s_bipush F (v := 6) dX2_charterPlace_1 (by decide) ?_
  refine s_imul F dX2_charterPlace_3 ?_
  refine s_iload_n F dX2_charterPlace_4 rfl 1 rfl ?_
  refine s_iadd F dX2_charterPlace_5 ?_
  exact s_iret F dX2_charterPlace_6
theorem dX2_giveCharter_0 : decode cX2_giveCharter 0 = .ok (.aload_n 0, 1) := by decide +kernel
theorem dX2_giveCharter_1 : decode cX2_giveCharter 1 = .ok (.getfield 15, 3) := by decide +kernel
theorem dX2_giveCharter_4 : decode cX2_giveCharter 4 = .ok (.iload_n 1, 1) := by decide +kernel
theorem dX2_giveCharter_5 : decode cX2_giveCharter 5 = .ok (.iload_n 2, 1) := by decide +kernel
theorem dX2_giveCharter_6 : decode cX2_giveCharter 6 = .ok (.invokestatic 75, 3) := by decide +kernel
theorem dX2_giveCharter_9 : decode cX2_giveCharter 9 = .ok (.iload_n 3, 1) := by decide +kernel
theorem dX2_giveCharter_10 : decode cX2_giveCharter 10 = .ok (.iastore, 1) := by decide +kernel
theorem dX2_giveCharter_11 : decode cX2_giveCharter 11 = .ok (.return_, 1) := by decide +kernel
theorem yv_X2_giveCharter : YV yX2_giveCharter cX2_giveCharter 4 none 3 := ⟨m541, m542, m5, m543, ⟨by decide +kernel, by decide +kernel, by decide +kernel⟩, by decide⟩
noncomputable def f_X2_giveCharter (q : Nat) (x1 : Int32) (x2 : Int32) (x3 : Int32) (h : AH) : Option (Unit × AH) := bd (f_X2_charterPlace x1 x2 h) (fun v_3 h_2 => ck v_3 12 (lt (hset h_2 (q + 2) (v_3 : Int32).toNatClampNeg x3) (fun h_4 => some ((), h_4))))
set_option maxRecDepth 20000 in
set_option maxHeartbeats 4000000 in
theorem ct_X2_giveCharter (l : Launch) (g : GC) {q : Nat} (hq : (gL g)[q]? = some (.inl 2)) (x1 : Int32) (x2 : Int32) (x3 : Int32) : Ct l yX2_giveCharter cX2_giveCharter 4 none 2 [.ref (gad g q), .int x1, .int x2, .int x3] g mkU (fun h => f_X2_giveCharter q x1 x2 x3 h) := by
  refine Ct.of (by decide +kernel) (Nat.le_of_ble_eq_true rfl) (fun z A h _ F => ?_)
  show Snd z 4 g A (QF z g A mkU) 0 [(0, .ref (gad g q)), (1, .int x1), (2, .int x2), (3, .int x3)] [] h (f_X2_giveCharter q x1 x2 x3 h)
  unfold f_X2_giveCharter
  refine s_aload_n F dX2_giveCharter_0 rfl 0 rfl ?_
  have hw_1 := wf_ref F.2.2.2.2.2.2.1 hq 8 2 (.inr (0, 12)) rfl
  refine s_getr F ciX2 8 2 (.inr (0, 12)) hq (by decide) rfl rfl m102 dX2_giveCharter_1 ?_
  refine s_iload_n F dX2_giveCharter_4 rfl 1 rfl ?_
  refine s_iload_n F dX2_giveCharter_5 rfl 2 rfl ?_
  refine s_callSi (f := fun hh => f_X2_charterPlace x1 x2 hh) (As := [.int x1, .int x2]) F ys_X2_charterPlace (ct_X2_charterPlace z.2.1 g x1 x2) (by decide) m539 rfl rfl (Nat.le_of_ble_eq_true rfl) dX2_giveCharter_6 (fun v_3 h_2 e_v_3 => ?_)
  refine s_iload_n F dX2_giveCharter_9 rfl 3 rfl ?_
  refine s_iast F hw_1 dX2_giveCharter_10 ?_
  refine s_letH (fun h_4 => ?_)
  exact s_vret F dX2_giveCharter_11
theorem dX2_loadPlace_0 : decode cX2_loadPlace 0 = .ok (.iload_n 0, 1) := by decide +kernel
theorem dX2_loadPlace_1 : decode cX2_loadPlace 1 = .ok (.iconst 4, 1) := by decide +kernel
theorem dX2_loadPlace_2 : decode cX2_loadPlace 2 = .ok (.imul, 1) := by decide +kernel
theorem dX2_loadPlace_3 : decode cX2_loadPlace 3 = .ok (.iload_n 1, 1) := by decide +kernel
theorem dX2_loadPlace_4 : decode cX2_loadPlace 4 = .ok (.iadd, 1) := by decide +kernel
theorem dX2_loadPlace_5 : decode cX2_loadPlace 5 = .ok (.ireturn, 1) := by decide +kernel
theorem ys_X2_loadPlace : YS yX2_loadPlace cX2_loadPlace 2 (some .int) 2 := ⟨m491, m5, m492, ⟨by decide +kernel, by decide +kernel, by decide +kernel⟩, by decide⟩
noncomputable def f_X2_loadPlace (x0 : Int32) (x1 : Int32) (h : AH) : Option (Int32 × AH) := some (((x0 * 4) + x1), h)
set_option maxRecDepth 20000 in
set_option maxHeartbeats 4000000 in
theorem ct_X2_loadPlace (l : Launch) (g : GC) (x0 : Int32) (x1 : Int32) : Ct l yX2_loadPlace cX2_loadPlace 2 (some .int) 1 [.int x0, .int x1] g mkI (fun h => f_X2_loadPlace x0 x1 h) := by
  refine Ct.of (by decide +kernel) (Nat.le_of_ble_eq_true rfl) (fun z A h _ F => ?_)
  show Snd z 2 g A (QF z g A mkI) 0 [(0, .int x0), (1, .int x1)] [] h (f_X2_loadPlace x0 x1 h)
  unfold f_X2_loadPlace
  refine s_iload_n F dX2_loadPlace_0 rfl 0 rfl ?_
  refine s_iconst F (v := 4) dX2_loadPlace_1 (by decide) ?_
  refine s_imul F dX2_loadPlace_2 ?_
  refine s_iload_n F dX2_loadPlace_3 rfl 1 rfl ?_
  refine s_iadd F dX2_loadPlace_4 ?_
  exact s_iret F dX2_loadPlace_5
theorem dX2_loadOf_0 : decode cX2_loadOf 0 = .ok (.aload_n 0, 1) := by decide +kernel
theorem dX2_loadOf_1 : decode cX2_loadOf 1 = .ok (.getfield 30, 3) := by decide +kernel
theorem dX2_loadOf_4 : decode cX2_loadOf 4 = .ok (.iload_n 1, 1) := by decide +kernel
theorem dX2_loadOf_5 : decode cX2_loadOf 5 = .ok (.iload_n 2, 1) := by decide +kernel
theorem dX2_loadOf_6 : decode cX2_loadOf 6 = .ok (.invokestatic 78, 3) := by decide +kernel
theorem dX2_loadOf_9 : decode cX2_loadOf 9 = .ok (.iaload, 1) := by decide +kernel
theorem dX2_loadOf_10 : decode cX2_loadOf 10 = .ok (.ireturn, 1) := by decide +kernel
theorem yv_X2_loadOf : YV yX2_loadOf cX2_loadOf 3 (some .int) 2 := ⟨m588, m589, m5, m590, ⟨by decide +kernel, by decide +kernel, by decide +kernel⟩, by decide⟩
noncomputable def f_X2_loadOf (q : Nat) (x1 : Int32) (x2 : Int32) (h : AH) : Option (Int32 × AH) := bd (f_X2_loadPlace x1 x2 h) (fun v_3 h_2 => ck v_3 24 (some (h_2 (q + 7) (v_3 : Int32).toNatClampNeg, h_2)))
set_option maxRecDepth 20000 in
set_option maxHeartbeats 4000000 in
theorem ct_X2_loadOf (l : Launch) (g : GC) {q : Nat} (hq : (gL g)[q]? = some (.inl 2)) (x1 : Int32) (x2 : Int32) : Ct l yX2_loadOf cX2_loadOf 3 (some .int) 2 [.ref (gad g q), .int x1, .int x2] g mkI (fun h => f_X2_loadOf q x1 x2 h) := by
  refine Ct.of (by decide +kernel) (Nat.le_of_ble_eq_true rfl) (fun z A h _ F => ?_)
  show Snd z 3 g A (QF z g A mkI) 0 [(0, .ref (gad g q)), (1, .int x1), (2, .int x2)] [] h (f_X2_loadOf q x1 x2 h)
  unfold f_X2_loadOf
  refine s_aload_n F dX2_loadOf_0 rfl 0 rfl ?_
  have hw_1 := wf_ref F.2.2.2.2.2.2.1 hq 13 7 (.inr (0, 24)) rfl
  refine s_getr F ciX2 13 7 (.inr (0, 24)) hq (by decide) rfl rfl m118 dX2_loadOf_1 ?_
  refine s_iload_n F dX2_loadOf_4 rfl 1 rfl ?_
  refine s_iload_n F dX2_loadOf_5 rfl 2 rfl ?_
  refine s_callSi (f := fun hh => f_X2_loadPlace x1 x2 hh) (As := [.int x1, .int x2]) F ys_X2_loadPlace (ct_X2_loadPlace z.2.1 g x1 x2) (by decide) m591 rfl rfl (Nat.le_of_ble_eq_true rfl) dX2_loadOf_6 (fun v_3 h_2 e_v_3 => ?_)
  refine s_iald F hw_1 dX2_loadOf_9 ?_
  exact s_iret F dX2_loadOf_10
theorem dX2_joinLast_0 : decode cX2_joinLast 0 = .ok (.aload_n 0, 1) := by decide +kernel
theorem dX2_joinLast_1 : decode cX2_joinLast 1 = .ok (.dup, 1) := by decide +kernel
theorem dX2_joinLast_2 : decode cX2_joinLast 2 = .ok (.getfield 44, 3) := by decide +kernel
theorem dX2_joinLast_5 : decode cX2_joinLast 5 = .ok (.iconst 1, 1) := by decide +kernel
theorem dX2_joinLast_6 : decode cX2_joinLast 6 = .ok (.isub, 1) := by decide +kernel
theorem dX2_joinLast_7 : decode cX2_joinLast 7 = .ok (.putfield 44, 3) := by decide +kernel
theorem dX2_joinLast_10 : decode cX2_joinLast 10 = .ok (.aload_n 0, 1) := by decide +kernel
theorem dX2_joinLast_11 : decode cX2_joinLast 11 = .ok (.getfield 30, 3) := by decide +kernel
theorem dX2_joinLast_14 : decode cX2_joinLast 14 = .ok (.iload_n 1, 1) := by decide +kernel
theorem dX2_joinLast_15 : decode cX2_joinLast 15 = .ok (.iload_n 2, 1) := by decide +kernel
theorem dX2_joinLast_16 : decode cX2_joinLast 16 = .ok (.invokestatic 78, 3) := by decide +kernel
theorem dX2_joinLast_19 : decode cX2_joinLast 19 = .ok (.aload_n 0, 1) := by decide +kernel
theorem dX2_joinLast_20 : decode cX2_joinLast 20 = .ok (.aload_n 0, 1) := by decide +kernel
theorem dX2_joinLast_21 : decode cX2_joinLast 21 = .ok (.getfield 44, 3) := by decide +kernel
theorem dX2_joinLast_24 : decode cX2_joinLast 24 = .ok (.iload_n 2, 1) := by decide +kernel
theorem dX2_joinLast_25 : decode cX2_joinLast 25 = .ok (.invokevirtual 81, 3) := by decide +kernel
theorem dX2_joinLast_28 : decode cX2_joinLast 28 = .ok (.iastore, 1) := by decide +kernel
theorem dX2_joinLast_29 : decode cX2_joinLast 29 = .ok (.return_, 1) := by decide +kernel
theorem yv_X2_joinLast : YV yX2_joinLast cX2_joinLast 3 none 2 := ⟨m670, m671, m5, m672, ⟨by decide +kernel, by decide +kernel, by decide +kernel⟩, by decide⟩
noncomputable def f_X2_joinLast (q : Nat) (x1 : Int32) (x2 : Int32) (h : AH) : Option (Unit × AH) := lt (hset h q 2 ((h q 2) - 1)) (fun h_1 => bd (f_X2_loadPlace x1 x2 h_1) (fun v_4 h_3 => bd (f_X2_loadOf q (h_3 q 2) x2 h_3) (fun v_6 h_5 => ck v_4 24 (lt (hset h_5 (q + 7) (v_4 : Int32).toNatClampNeg v_6) (fun h_7 => some ((), h_7))))))
set_option maxRecDepth 20000 in
set_option maxHeartbeats 4000000 in
theorem ct_X2_joinLast (l : Launch) (g : GC) {q : Nat} (hq : (gL g)[q]? = some (.inl 2)) (x1 : Int32) (x2 : Int32) : Ct l yX2_joinLast cX2_joinLast 3 none 3 [.ref (gad g q), .int x1, .int x2] g mkU (fun h => f_X2_joinLast q x1 x2 h) := by
  refine Ct.of (by decide +kernel) (Nat.le_of_ble_eq_true rfl) (fun z A h _ F => ?_)
  show Snd z 3 g A (QF z g A mkU) 0 [(0, .ref (gad g q)), (1, .int x1), (2, .int x2)] [] h (f_X2_joinLast q x1 x2 h)
  unfold f_X2_joinLast
  refine s_aload_n F dX2_joinLast_0 rfl 0 rfl ?_
  refine s_dup F dX2_joinLast_1 rfl ?_
  refine s_geti F ciX2 2 hq (by decide) rfl rfl m85 dX2_joinLast_2 ?_
  refine s_iconst F (v := 1) dX2_joinLast_5 (by decide) ?_
  refine s_isub F dX2_joinLast_6 ?_
  refine s_put F ciX2 (k := 2) hq (by decide) rfl rfl rfl rfl m85 dX2_joinLast_7 ?_
  refine s_letH (fun h_1 => ?_)
  refine s_aload_n F dX2_joinLast_10 rfl 0 rfl ?_
  have hw_2 := wf_ref F.2.2.2.2.2.2.1 hq 13 7 (.inr (0, 24)) rfl
  refine s_getr F ciX2 13 7 (.inr (0, 24)) hq (by decide) rfl rfl m118 dX2_joinLast_11 ?_
  refine s_iload_n F dX2_joinLast_14 rfl 1 rfl ?_
  refine s_iload_n F dX2_joinLast_15 rfl 2 rfl ?_
  refine s_callSi (f := fun hh => f_X2_loadPlace x1 x2 hh) (As := [.int x1, .int x2]) F ys_X2_loadPlace (ct_X2_loadPlace z.2.1 g x1 x2) (by decide) m591 rfl rfl (Nat.le_of_ble_eq_true rfl) dX2_joinLast_16 (fun v_4 h_3 e_v_4 => ?_)
  refine s_aload_n F dX2_joinLast_19 rfl 0 rfl ?_
  refine s_aload_n F dX2_joinLast_20 rfl 0 rfl ?_
  refine s_geti F ciX2 2 hq (by decide) rfl rfl m85 dX2_joinLast_21 ?_
  refine s_iload_n F dX2_joinLast_24 rfl 2 rfl ?_
  refine s_callVi (f := fun hh => f_X2_loadOf q (h_3 q 2) x2 hh) (As := [.int (h_3 q 2), .int x2]) F yv_X2_loadOf (ct_X2_loadOf z.2.1 g hq (h_3 q 2) x2) (by decide) m587 hq rfl rfl rfl (Nat.le_of_ble_eq_true rfl) dX2_joinLast_25 (fun v_6 h_5 e_v_6 => ?_)
  refine s_iast F hw_2 dX2_joinLast_28 ?_
  refine s_letH (fun h_7 => ?_)
  exact s_vret F dX2_joinLast_29
theorem dX2_allOf_0 : decode cX2_allOf 0 = .ok (.iconst 0, 1) := by decide +kernel
theorem dX2_allOf_1 : decode cX2_allOf 1 = .ok (.istore_n 2, 1) := by decide +kernel
theorem dX2_allOf_2 : decode cX2_allOf 2 = .ok (.iconst 0, 1) := by decide +kernel
theorem dX2_allOf_3 : decode cX2_allOf 3 = .ok (.istore_n 3, 1) := by decide +kernel
theorem dX2_allOf_4 : decode cX2_allOf 4 = .ok (.iload_n 3, 1) := by decide +kernel
theorem dX2_allOf_5 : decode cX2_allOf 5 = .ok (.iconst 4, 1) := by decide +kernel
theorem dX2_allOf_6 : decode cX2_allOf 6 = .ok (.if_icmp .ge 18, 3) := by decide +kernel
theorem dX2_allOf_9 : decode cX2_allOf 9 = .ok (.iload_n 2, 1) := by decide +kernel
theorem dX2_allOf_10 : decode cX2_allOf 10 = .ok (.aload_n 0, 1) := by decide +kernel
theorem dX2_allOf_11 : decode cX2_allOf 11 = .ok (.iload_n 1, 1) := by decide +kernel
theorem dX2_allOf_12 : decode cX2_allOf 12 = .ok (.iload_n 3, 1) := by decide +kernel
theorem dX2_allOf_13 : decode cX2_allOf 13 = .ok (.invokevirtual 81, 3) := by decide +kernel
theorem dX2_allOf_16 : decode cX2_allOf 16 = .ok (.iadd, 1) := by decide +kernel
theorem dX2_allOf_17 : decode cX2_allOf 17 = .ok (.istore_n 2, 1) := by decide +kernel
theorem dX2_allOf_18 : decode cX2_allOf 18 = .ok (.iinc 3 1, 3) := by decide +kernel
theorem dX2_allOf_21 : decode cX2_allOf 21 = .ok (.goto (-17), 3) := by decide +kernel
theorem dX2_allOf_24 : decode cX2_allOf 24 = .ok (.iload_n 2, 1) := by decide +kernel
theorem dX2_allOf_25 : decode cX2_allOf 25 = .ok (.ireturn, 1) := by decide +kernel
theorem yv_X2_allOf : YV yX2_allOf cX2_allOf 4 (some .int) 1 := ⟨m619, m620, m5, m621, ⟨by decide +kernel, by decide +kernel, by decide +kernel⟩, by decide⟩
noncomputable def f_X2_allOf_4 (q : Nat) : Nat → Int32 → Int32 → Int32 → AH → Option (Int32 × AH)
  | 0, _, _, _, _ => none
  | n + 1, x1, x2, x3, h => if (4 : Int32) ≤ x3 then (some (x2, h)) else (bd (f_X2_loadOf q x1 x3 h) (fun v_2 h_1 => lt ((x2 + v_2)) (fun v_3 => lt (x3 + 1) (fun v_4 => (f_X2_allOf_4 q n) x1 v_3 v_4 h_1))))
set_option maxRecDepth 20000 in
set_option maxHeartbeats 4000000 in
theorem t_X2_allOf_4 {z : MC} {g : GC} {A : Nat → Prop} (F : Fx z cX2_allOf 4 RX2 (some .int) 3 g A) {q : Nat} (hq : (gL g)[q]? = some (.inl 2)) : ∀ (n : Nat) (x1 : Int32) (x2 : Int32) (x3 : Int32) (h : AH), Snd z 4 g A (QF z g A mkI) 4 [(0, .ref (gad g q)), (1, .int x1), (2, .int x2), (3, .int x3)] [] h (f_X2_allOf_4 q n x1 x2 x3 h) := by
  intro n
  induction n with
  | zero => intros; exact s_none
  | succ n ih =>
    intro x1 x2 x3 h
    unfold f_X2_allOf_4
    refine s_iload_n F dX2_allOf_4 rfl 3 rfl ?_
    refine s_iconst F (v := 4) dX2_allOf_5 (by decide) ?_
    refine s_icmp_ge F 24 dX2_allOf_6 (by decide) (fun _ => ?_) (fun _ => ?_)
    · refine s_iload_n F dX2_allOf_24 rfl 2 rfl ?_
      exact s_iret F dX2_allOf_25
    · refine s_iload_n F dX2_allOf_9 rfl 2 rfl ?_
      refine s_aload_n F dX2_allOf_10 rfl 0 rfl ?_
      refine s_iload_n F dX2_allOf_11 rfl 1 rfl ?_
      refine s_iload_n F dX2_allOf_12 rfl 3 rfl ?_
      refine s_callVi (f := fun hh => f_X2_loadOf q x1 x3 hh) (As := [.int x1, .int x3]) F yv_X2_loadOf (ct_X2_loadOf z.2.1 g hq x1 x3) (by decide) m587 hq rfl rfl rfl (Nat.le_of_ble_eq_true rfl) dX2_allOf_13 (fun v_2 h_1 e_v_2 => ?_)
      refine s_iadd F dX2_allOf_16 ?_
      refine s_leti (fun v_3 => ?_)
      refine s_istore_n F (lv' := [(2, .int v_3), (0, .ref (gad g q)), (1, .int x1), (3, .int x3)]) dX2_allOf_17 rfl (by decide) rfl ?_
      refine s_iincv F dX2_allOf_18 3 rfl (by decide) (c := 1) (by decide) (fun v_4 => ?_)
      refine s_lv (lv' := [(3, .int v_4), (2, .int v_3), (0, .ref (gad g q)), (1, .int x1)]) rfl ?_
      refine s_goto F 4 dX2_allOf_21 (by decide) ?_
      exact s_sub [2, 3, 1, 0] rfl (ih x1 v_3 v_4 h_1)
noncomputable def f_X2_allOf (q : Nat) (x1 : Int32) (h : AH) : Option (Int32 × AH) := f_X2_allOf_4 q fu x1 0 0 h
set_option maxRecDepth 20000 in
set_option maxHeartbeats 4000000 in
theorem ct_X2_allOf (l : Launch) (g : GC) {q : Nat} (hq : (gL g)[q]? = some (.inl 2)) (x1 : Int32) : Ct l yX2_allOf cX2_allOf 4 (some .int) 3 [.ref (gad g q), .int x1] g mkI (fun h => f_X2_allOf q x1 h) := by
  refine Ct.of (by decide +kernel) (Nat.le_of_ble_eq_true rfl) (fun z A h _ F => ?_)
  show Snd z 4 g A (QF z g A mkI) 0 [(0, .ref (gad g q)), (1, .int x1)] [] h (f_X2_allOf q x1 h)
  unfold f_X2_allOf
  refine s_iconst F (v := 0) dX2_allOf_0 (by decide) ?_
  refine s_istore_n F (lv' := [(2, .int 0), (0, .ref (gad g q)), (1, .int x1)]) dX2_allOf_1 rfl (by decide) rfl ?_
  refine s_iconst F (v := 0) dX2_allOf_2 (by decide) ?_
  refine s_istore_n F (lv' := [(3, .int 0), (2, .int 0), (0, .ref (gad g q)), (1, .int x1)]) dX2_allOf_3 rfl (by decide) rfl ?_
  exact s_sub [2, 3, 1, 0] rfl (t_X2_allOf_4 F hq fu x1 0 0 h)
theorem dX2_clear_0 : decode cX2_clear 0 = .ok (.aload_n 0, 1) := by decide +kernel
theorem dX2_clear_1 : decode cX2_clear 1 = .ok (.iconst 0, 1) := by decide +kernel
theorem dX2_clear_2 : decode cX2_clear 2 = .ok (.putfield 36, 3) := by decide +kernel
theorem dX2_clear_5 : decode cX2_clear 5 = .ok (.aload_n 0, 1) := by decide +kernel
theorem dX2_clear_6 : decode cX2_clear 6 = .ok (.iconst 0, 1) := by decide +kernel
theorem dX2_clear_7 : decode cX2_clear 7 = .ok (.putfield 40, 3) := by decide +kernel
theorem dX2_clear_10 : decode cX2_clear 10 = .ok (.aload_n 0, 1) := by decide +kernel
theorem dX2_clear_11 : decode cX2_clear 11 = .ok (.iconst 0, 1) := by decide +kernel
theorem dX2_clear_12 : decode cX2_clear 12 = .ok (.putfield 44, 3) := by decide +kernel
theorem dX2_clear_15 : decode cX2_clear 15 = .ok (.aload_n 0, 1) := by decide +kernel
theorem dX2_clear_16 : decode cX2_clear 16 = .ok (.iconst 0, 1) := by decide +kernel
theorem dX2_clear_17 : decode cX2_clear 17 = .ok (.putfield 47, 3) := by decide +kernel
theorem dX2_clear_20 : decode cX2_clear 20 = .ok (.aload_n 0, 1) := by decide +kernel
theorem dX2_clear_21 : decode cX2_clear 21 = .ok (.iconst 0, 1) := by decide +kernel
theorem dX2_clear_22 : decode cX2_clear 22 = .ok (.putfield 50, 3) := by decide +kernel
theorem dX2_clear_25 : decode cX2_clear 25 = .ok (.aload_n 0, 1) := by decide +kernel
theorem dX2_clear_26 : decode cX2_clear 26 = .ok (.iconst 0, 1) := by decide +kernel
theorem dX2_clear_27 : decode cX2_clear 27 = .ok (.putfield 53, 3) := by decide +kernel
theorem dX2_clear_30 : decode cX2_clear 30 = .ok (.aload_n 0, 1) := by decide +kernel
theorem dX2_clear_31 : decode cX2_clear 31 = .ok (.iconst 0, 1) := by decide +kernel
theorem dX2_clear_32 : decode cX2_clear 32 = .ok (.putfield 56, 3) := by decide +kernel
theorem dX2_clear_35 : decode cX2_clear 35 = .ok (.aload_n 0, 1) := by decide +kernel
theorem dX2_clear_36 : decode cX2_clear 36 = .ok (.getfield 33, 3) := by decide +kernel
theorem dX2_clear_39 : decode cX2_clear 39 = .ok (.iconst 0, 1) := by decide +kernel
theorem dX2_clear_40 : decode cX2_clear 40 = .ok (.invokestatic 59, 3) := by decide +kernel
theorem dX2_clear_43 : decode cX2_clear 43 = .ok (.return_, 1) := by decide +kernel
theorem yv_X2_clear : YV yX2_clear cX2_clear 1 none 0 := ⟨m358, m359, m5, m360, ⟨by decide +kernel, by decide +kernel, by decide +kernel⟩, by decide⟩
noncomputable def f_X2_clear (q : Nat) (h : AH) : Option (Unit × AH) := gz 0 (lt (hset h q 0 0) (fun h_1 => lt (hset h_1 q 1 0) (fun h_2 => lt (hset h_2 q 2 0) (fun h_3 => lt (hset h_3 q 3 0) (fun h_4 => lt (hset h_4 q 4 0) (fun h_5 => lt (hset h_5 q 5 0) (fun h_6 => lt (hset h_6 q 6 0) (fun h_7 => bd (f_J7_fill_53178 (q + 8) 24 0 h_7) (fun _ h_9 => some ((), h_9))))))))))
set_option maxRecDepth 20000 in
set_option maxHeartbeats 4000000 in
theorem ct_X2_clear (l : Launch) (g : GC) {q : Nat} (hq : (gL g)[q]? = some (.inl 2)) : Ct l yX2_clear cX2_clear 1 none 2 [.ref (gad g q)] g mkU (fun h => f_X2_clear q h) := by
  refine Ct.of (by decide +kernel) (Nat.le_of_ble_eq_true rfl) (fun z A h _ F => ?_)
  show Snd z 1 g A (QF z g A mkU) 0 [(0, .ref (gad g q))] [] h (f_X2_clear q h)
  unfold f_X2_clear
  refine s_aload_n F dX2_clear_0 rfl 0 rfl ?_
  refine s_iconst F (v := 0) dX2_clear_1 (by decide) ?_
  refine s_putZ F ciX2 (k := 0) hq (by decide) rfl rfl rfl rfl m78 dX2_clear_2 ?_
  refine s_letH (fun h_1 => ?_)
  refine s_aload_n F dX2_clear_5 rfl 0 rfl ?_
  refine s_iconst F (v := 0) dX2_clear_6 (by decide) ?_
  refine s_put F ciX2 (k := 1) hq (by decide) rfl rfl rfl rfl m81 dX2_clear_7 ?_
  refine s_letH (fun h_2 => ?_)
  refine s_aload_n F dX2_clear_10 rfl 0 rfl ?_
  refine s_iconst F (v := 0) dX2_clear_11 (by decide) ?_
  refine s_put F ciX2 (k := 2) hq (by decide) rfl rfl rfl rfl m85 dX2_clear_12 ?_
  refine s_letH (fun h_3 => ?_)
  refine s_aload_n F dX2_clear_15 rfl 0 rfl ?_
  refine s_iconst F (v := 0) dX2_clear_16 (by decide) ?_
  refine s_put F ciX2 (k := 3) hq (by decide) rfl rfl rfl rfl m89 dX2_clear_17 ?_
  refine s_letH (fun h_4 => ?_)
  refine s_aload_n F dX2_clear_20 rfl 0 rfl ?_
  refine s_iconst F (v := 0) dX2_clear_21 (by decide) ?_
  refine s_put F ciX2 (k := 4) hq (by decide) rfl rfl rfl rfl m92 dX2_clear_22 ?_
  refine s_letH (fun h_5 => ?_)
  refine s_aload_n F dX2_clear_25 rfl 0 rfl ?_
  refine s_iconst F (v := 0) dX2_clear_26 (by decide) ?_
  refine s_put F ciX2 (k := 5) hq (by decide) rfl rfl rfl rfl m94 dX2_clear_27 ?_
  refine s_letH (fun h_6 => ?_)
  refine s_aload_n F dX2_clear_30 rfl 0 rfl ?_
  refine s_iconst F (v := 0) dX2_clear_31 (by decide) ?_
  refine s_put F ciX2 (k := 6) hq (by decide) rfl rfl rfl rfl m97 dX2_clear_32 ?_
  refine s_letH (fun h_7 => ?_)
  refine s_aload_n F dX2_clear_35 rfl 0 rfl ?_
  have hw_8 := wf_ref F.2.2.2.2.2.2.1 hq 14 8 (.inr (0, 24)) rfl
  refine s_getr F ciX2 14 8 (.inr (0, 24)) hq (by decide) rfl rfl m120 dX2_clear_36 ?_
  refine s_iconst F (v := 0) dX2_clear_39 (by decide) ?_
  refine s_callSu (f := fun hh => f_J7_fill_53178 (q + 8) 24 0 hh) (As := [.ref (gad g (q + 8)), .int 0]) F ys_J7_fill_53178 (ct_J7_fill_53178 z.2.1 g hw_8 0) (by decide) m361 rfl rfl (Nat.le_of_ble_eq_true rfl) dX2_clear_40 (fun _ h_9 e_v_10 => ?_)
  exact s_vret F dX2_clear_43
theorem dX2_become_0 : decode cX2_become 0 = .ok (.aload_n 0, 1) := by decide +kernel
theorem dX2_become_1 : decode cX2_become 1 = .ok (.aload_n 1, 1) := by decide +kernel
theorem dX2_become_2 : decode cX2_become 2 = .ok (.getfield 36, 3) := by decide +kernel
theorem dX2_become_5 : decode cX2_become 5 = .ok (.putfield 36, 3) := by decide +kernel
theorem dX2_become_8 : decode cX2_become 8 = .ok (.aload_n 0, 1) := by decide +kernel
theorem dX2_become_9 : decode cX2_become 9 = .ok (.aload_n 1, 1) := by decide +kernel
theorem dX2_become_10 : decode cX2_become 10 = .ok (.getfield 40, 3) := by decide +kernel
theorem dX2_become_13 : decode cX2_become 13 = .ok (.putfield 40, 3) := by decide +kernel
theorem dX2_become_16 : decode cX2_become 16 = .ok (.aload_n 0, 1) := by decide +kernel
theorem dX2_become_17 : decode cX2_become 17 = .ok (.aload_n 1, 1) := by decide +kernel
theorem dX2_become_18 : decode cX2_become 18 = .ok (.getfield 44, 3) := by decide +kernel
theorem dX2_become_21 : decode cX2_become 21 = .ok (.putfield 44, 3) := by decide +kernel
theorem dX2_become_24 : decode cX2_become 24 = .ok (.aload_n 0, 1) := by decide +kernel
theorem dX2_become_25 : decode cX2_become 25 = .ok (.aload_n 1, 1) := by decide +kernel
theorem dX2_become_26 : decode cX2_become 26 = .ok (.getfield 47, 3) := by decide +kernel
theorem dX2_become_29 : decode cX2_become 29 = .ok (.putfield 47, 3) := by decide +kernel
theorem dX2_become_32 : decode cX2_become 32 = .ok (.aload_n 0, 1) := by decide +kernel
theorem dX2_become_33 : decode cX2_become 33 = .ok (.aload_n 1, 1) := by decide +kernel
theorem dX2_become_34 : decode cX2_become 34 = .ok (.getfield 50, 3) := by decide +kernel
theorem dX2_become_37 : decode cX2_become 37 = .ok (.putfield 50, 3) := by decide +kernel
theorem dX2_become_40 : decode cX2_become 40 = .ok (.aload_n 0, 1) := by decide +kernel
theorem dX2_become_41 : decode cX2_become 41 = .ok (.aload_n 1, 1) := by decide +kernel
theorem dX2_become_42 : decode cX2_become 42 = .ok (.getfield 53, 3) := by decide +kernel
theorem dX2_become_45 : decode cX2_become 45 = .ok (.putfield 53, 3) := by decide +kernel
theorem dX2_become_48 : decode cX2_become 48 = .ok (.aload_n 0, 1) := by decide +kernel
theorem dX2_become_49 : decode cX2_become 49 = .ok (.aload_n 1, 1) := by decide +kernel
theorem dX2_become_50 : decode cX2_become 50 = .ok (.getfield 56, 3) := by decide +kernel
theorem dX2_become_53 : decode cX2_become 53 = .ok (.putfield 56, 3) := by decide +kernel
theorem dX2_become_56 : decode cX2_become 56 = .ok (.aload_n 1, 1) := by decide +kernel
theorem dX2_become_57 : decode cX2_become 57 = .ok (.getfield 9, 3) := by decide +kernel
theorem dX2_become_60 : decode cX2_become 60 = .ok (.iconst 0, 1) := by decide +kernel
theorem dX2_become_61 : decode cX2_become 61 = .ok (.aload_n 0, 1) := by decide +kernel
theorem dX2_become_62 : decode cX2_become 62 = .ok (.getfield 9, 3) := by decide +kernel
theorem dX2_become_65 : decode cX2_become 65 = .ok (.iconst 0, 1) := by decide +kernel
theorem dX2_become_66 : decode cX2_become 66 = .ok (.aload_n 0, 1) := by decide +kernel
theorem dX2_become_67 : decode cX2_become 67 = .ok (.getfield 9, 3) := by decide +kernel
theorem dX2_become_70 : decode cX2_become 70 = .ok (.arraylength, 1) := by decide +kernel
theorem dX2_become_71 : decode cX2_become 71 = .ok (.invokestatic 65, 3) := by decide +kernel
theorem dX2_become_74 : decode cX2_become 74 = .ok (.aload_n 1, 1) := by decide +kernel
theorem dX2_become_75 : decode cX2_become 75 = .ok (.getfield 15, 3) := by decide +kernel
theorem dX2_become_78 : decode cX2_become 78 = .ok (.iconst 0, 1) := by decide +kernel
theorem dX2_become_79 : decode cX2_become 79 = .ok (.aload_n 0, 1) := by decide +kernel
theorem dX2_become_80 : decode cX2_become 80 = .ok (.getfield 15, 3) := by decide +kernel
theorem dX2_become_83 : decode cX2_become 83 = .ok (.iconst 0, 1) := by decide +kernel
theorem dX2_become_84 : decode cX2_become 84 = .ok (.aload_n 0, 1) := by decide +kernel
theorem dX2_become_85 : decode cX2_become 85 = .ok (.getfield 15, 3) := by decide +kernel
theorem dX2_become_88 : decode cX2_become 88 = .ok (.arraylength, 1) := by decide +kernel
theorem dX2_become_89 : decode cX2_become 89 = .ok (.invokestatic 65, 3) := by decide +kernel
theorem dX2_become_92 : decode cX2_become 92 = .ok (.aload_n 1, 1) := by decide +kernel
theorem dX2_become_93 : decode cX2_become 93 = .ok (.getfield 18, 3) := by decide +kernel
theorem dX2_become_96 : decode cX2_become 96 = .ok (.iconst 0, 1) := by decide +kernel
theorem dX2_become_97 : decode cX2_become 97 = .ok (.aload_n 0, 1) := by decide +kernel
theorem dX2_become_98 : decode cX2_become 98 = .ok (.getfield 18, 3) := by decide +kernel
theorem dX2_become_101 : decode cX2_become 101 = .ok (.iconst 0, 1) := by decide +kernel
theorem dX2_become_102 : decode cX2_become 102 = .ok (.aload_n 0, 1) := by decide +kernel
theorem dX2_become_103 : decode cX2_become 103 = .ok (.getfield 18, 3) := by decide +kernel
theorem dX2_become_106 : decode cX2_become 106 = .ok (.arraylength, 1) := by decide +kernel
theorem dX2_become_107 : decode cX2_become 107 = .ok (.invokestatic 65, 3) := by decide +kernel
theorem dX2_become_110 : decode cX2_become 110 = .ok (.aload_n 1, 1) := by decide +kernel
theorem dX2_become_111 : decode cX2_become 111 = .ok (.getfield 21, 3) := by decide +kernel
theorem dX2_become_114 : decode cX2_become 114 = .ok (.iconst 0, 1) := by decide +kernel
theorem dX2_become_115 : decode cX2_become 115 = .ok (.aload_n 0, 1) := by decide +kernel
theorem dX2_become_116 : decode cX2_become 116 = .ok (.getfield 21, 3) := by decide +kernel
theorem dX2_become_119 : decode cX2_become 119 = .ok (.iconst 0, 1) := by decide +kernel
theorem dX2_become_120 : decode cX2_become 120 = .ok (.aload_n 0, 1) := by decide +kernel
theorem dX2_become_121 : decode cX2_become 121 = .ok (.getfield 21, 3) := by decide +kernel
theorem dX2_become_124 : decode cX2_become 124 = .ok (.arraylength, 1) := by decide +kernel
theorem dX2_become_125 : decode cX2_become 125 = .ok (.invokestatic 65, 3) := by decide +kernel
theorem dX2_become_128 : decode cX2_become 128 = .ok (.aload_n 1, 1) := by decide +kernel
theorem dX2_become_129 : decode cX2_become 129 = .ok (.getfield 24, 3) := by decide +kernel
theorem dX2_become_132 : decode cX2_become 132 = .ok (.iconst 0, 1) := by decide +kernel
theorem dX2_become_133 : decode cX2_become 133 = .ok (.aload_n 0, 1) := by decide +kernel
theorem dX2_become_134 : decode cX2_become 134 = .ok (.getfield 24, 3) := by decide +kernel
theorem dX2_become_137 : decode cX2_become 137 = .ok (.iconst 0, 1) := by decide +kernel
theorem dX2_become_138 : decode cX2_become 138 = .ok (.aload_n 0, 1) := by decide +kernel
theorem dX2_become_139 : decode cX2_become 139 = .ok (.getfield 24, 3) := by decide +kernel
theorem dX2_become_142 : decode cX2_become 142 = .ok (.arraylength, 1) := by decide +kernel
theorem dX2_become_143 : decode cX2_become 143 = .ok (.invokestatic 65, 3) := by decide +kernel
theorem dX2_become_146 : decode cX2_become 146 = .ok (.aload_n 1, 1) := by decide +kernel
theorem dX2_become_147 : decode cX2_become 147 = .ok (.getfield 27, 3) := by decide +kernel
theorem dX2_become_150 : decode cX2_become 150 = .ok (.iconst 0, 1) := by decide +kernel
theorem dX2_become_151 : decode cX2_become 151 = .ok (.aload_n 0, 1) := by decide +kernel
theorem dX2_become_152 : decode cX2_become 152 = .ok (.getfield 27, 3) := by decide +kernel
theorem dX2_become_155 : decode cX2_become 155 = .ok (.iconst 0, 1) := by decide +kernel
theorem dX2_become_156 : decode cX2_become 156 = .ok (.aload_n 0, 1) := by decide +kernel
theorem dX2_become_157 : decode cX2_become 157 = .ok (.getfield 27, 3) := by decide +kernel
theorem dX2_become_160 : decode cX2_become 160 = .ok (.arraylength, 1) := by decide +kernel
theorem dX2_become_161 : decode cX2_become 161 = .ok (.invokestatic 65, 3) := by decide +kernel
theorem dX2_become_164 : decode cX2_become 164 = .ok (.aload_n 1, 1) := by decide +kernel
theorem dX2_become_165 : decode cX2_become 165 = .ok (.getfield 30, 3) := by decide +kernel
theorem dX2_become_168 : decode cX2_become 168 = .ok (.iconst 0, 1) := by decide +kernel
theorem dX2_become_169 : decode cX2_become 169 = .ok (.aload_n 0, 1) := by decide +kernel
theorem dX2_become_170 : decode cX2_become 170 = .ok (.getfield 30, 3) := by decide +kernel
theorem dX2_become_173 : decode cX2_become 173 = .ok (.iconst 0, 1) := by decide +kernel
theorem dX2_become_174 : decode cX2_become 174 = .ok (.aload_n 0, 1) := by decide +kernel
theorem dX2_become_175 : decode cX2_become 175 = .ok (.getfield 30, 3) := by decide +kernel
theorem dX2_become_178 : decode cX2_become 178 = .ok (.arraylength, 1) := by decide +kernel
theorem dX2_become_179 : decode cX2_become 179 = .ok (.invokestatic 65, 3) := by decide +kernel
theorem dX2_become_182 : decode cX2_become 182 = .ok (.aload_n 1, 1) := by decide +kernel
theorem dX2_become_183 : decode cX2_become 183 = .ok (.getfield 33, 3) := by decide +kernel
theorem dX2_become_186 : decode cX2_become 186 = .ok (.iconst 0, 1) := by decide +kernel
theorem dX2_become_187 : decode cX2_become 187 = .ok (.aload_n 0, 1) := by decide +kernel
theorem dX2_become_188 : decode cX2_become 188 = .ok (.getfield 33, 3) := by decide +kernel
theorem dX2_become_191 : decode cX2_become 191 = .ok (.iconst 0, 1) := by decide +kernel
theorem dX2_become_192 : decode cX2_become 192 = .ok (.aload_n 0, 1) := by decide +kernel
theorem dX2_become_193 : decode cX2_become 193 = .ok (.getfield 33, 3) := by decide +kernel
theorem dX2_become_196 : decode cX2_become 196 = .ok (.arraylength, 1) := by decide +kernel
theorem dX2_become_197 : decode cX2_become 197 = .ok (.invokestatic 65, 3) := by decide +kernel
theorem dX2_become_200 : decode cX2_become 200 = .ok (.return_, 1) := by decide +kernel
theorem yv_X2_become : YV yX2_become cX2_become 2 none 1 := ⟨m515, m516, m5, m517, ⟨by decide +kernel, by decide +kernel, by decide +kernel⟩, by decide⟩
noncomputable def f_X2_become (q : Nat) (r1 : Nat) (h : AH) : Option (Unit × AH) := lt (h r1 0) (fun v_1 => gz v_1 (lt (hset h q 0 v_1) (fun h_2 => lt (hset h_2 q 1 (h_2 r1 1)) (fun h_3 => lt (hset h_3 q 2 (h_3 r1 2)) (fun h_4 => lt (hset h_4 q 3 (h_4 r1 3)) (fun h_5 => lt (hset h_5 q 4 (h_5 r1 4)) (fun h_6 => lt (hset h_6 q 5 (h_6 r1 5)) (fun h_7 => lt (hset h_7 q 6 (h_7 r1 6)) (fun h_8 => bh (cpy h_8 (r1 + 1) 12 0 (q + 1) 12 0 12) (fun h_12 => bh (cpy h_12 (r1 + 2) 12 0 (q + 2) 12 0 12) (fun h_16 => bh (cpy h_16 (r1 + 3) 6 0 (q + 3) 6 0 6) (fun h_20 => bh (cpy h_20 (r1 + 4) 6 0 (q + 4) 6 0 6) (fun h_24 => bh (cpy h_24 (r1 + 5) 6 0 (q + 5) 6 0 6) (fun h_28 => bh (cpy h_28 (r1 + 6) 6 0 (q + 6) 6 0 6) (fun h_32 => bh (cpy h_32 (r1 + 7) 24 0 (q + 7) 24 0 24) (fun h_36 => bh (cpy h_36 (r1 + 8) 24 0 (q + 8) 24 0 24) (fun h_40 => some ((), h_40))))))))))))))))))
set_option maxRecDepth 20000 in
set_option maxHeartbeats 4000000 in
theorem ct_X2_become (l : Launch) (g : GC) {q : Nat} (hq : (gL g)[q]? = some (.inl 2)) {r1 : Nat} (hr1 : (gL g)[r1]? = some (.inl 2)) : Ct l yX2_become cX2_become 2 none 1 [.ref (gad g q), .ref (gad g r1)] g mkU (fun h => f_X2_become q r1 h) := by
  refine Ct.of (by decide +kernel) (Nat.le_of_ble_eq_true rfl) (fun z A h _ F => ?_)
  show Snd z 2 g A (QF z g A mkU) 0 [(0, .ref (gad g q)), (1, .ref (gad g r1))] [] h (f_X2_become q r1 h)
  unfold f_X2_become
  refine s_aload_n F dX2_become_0 rfl 0 rfl ?_
  refine s_aload_n F dX2_become_1 rfl 1 rfl ?_
  refine s_geti F ciX2 0 hr1 (by decide) rfl rfl m78 dX2_become_2 ?_
  refine s_leti (fun v_1 => ?_)
  refine s_putZ F ciX2 (k := 0) hq (by decide) rfl rfl rfl rfl m78 dX2_become_5 ?_
  refine s_letH (fun h_2 => ?_)
  refine s_aload_n F dX2_become_8 rfl 0 rfl ?_
  refine s_aload_n F dX2_become_9 rfl 1 rfl ?_
  refine s_geti F ciX2 1 hr1 (by decide) rfl rfl m81 dX2_become_10 ?_
  refine s_put F ciX2 (k := 1) hq (by decide) rfl rfl rfl rfl m81 dX2_become_13 ?_
  refine s_letH (fun h_3 => ?_)
  refine s_aload_n F dX2_become_16 rfl 0 rfl ?_
  refine s_aload_n F dX2_become_17 rfl 1 rfl ?_
  refine s_geti F ciX2 2 hr1 (by decide) rfl rfl m85 dX2_become_18 ?_
  refine s_put F ciX2 (k := 2) hq (by decide) rfl rfl rfl rfl m85 dX2_become_21 ?_
  refine s_letH (fun h_4 => ?_)
  refine s_aload_n F dX2_become_24 rfl 0 rfl ?_
  refine s_aload_n F dX2_become_25 rfl 1 rfl ?_
  refine s_geti F ciX2 3 hr1 (by decide) rfl rfl m89 dX2_become_26 ?_
  refine s_put F ciX2 (k := 3) hq (by decide) rfl rfl rfl rfl m89 dX2_become_29 ?_
  refine s_letH (fun h_5 => ?_)
  refine s_aload_n F dX2_become_32 rfl 0 rfl ?_
  refine s_aload_n F dX2_become_33 rfl 1 rfl ?_
  refine s_geti F ciX2 4 hr1 (by decide) rfl rfl m92 dX2_become_34 ?_
  refine s_put F ciX2 (k := 4) hq (by decide) rfl rfl rfl rfl m92 dX2_become_37 ?_
  refine s_letH (fun h_6 => ?_)
  refine s_aload_n F dX2_become_40 rfl 0 rfl ?_
  refine s_aload_n F dX2_become_41 rfl 1 rfl ?_
  refine s_geti F ciX2 5 hr1 (by decide) rfl rfl m94 dX2_become_42 ?_
  refine s_put F ciX2 (k := 5) hq (by decide) rfl rfl rfl rfl m94 dX2_become_45 ?_
  refine s_letH (fun h_7 => ?_)
  refine s_aload_n F dX2_become_48 rfl 0 rfl ?_
  refine s_aload_n F dX2_become_49 rfl 1 rfl ?_
  refine s_geti F ciX2 6 hr1 (by decide) rfl rfl m97 dX2_become_50 ?_
  refine s_put F ciX2 (k := 6) hq (by decide) rfl rfl rfl rfl m97 dX2_become_53 ?_
  refine s_letH (fun h_8 => ?_)
  refine s_aload_n F dX2_become_56 rfl 1 rfl ?_
  have hw_9 := wf_ref F.2.2.2.2.2.2.1 hr1 7 1 (.inr (0, 12)) rfl
  refine s_getr F ciX2 7 1 (.inr (0, 12)) hr1 (by decide) rfl rfl m99 dX2_become_57 ?_
  refine s_iconst F (v := 0) dX2_become_60 (by decide) ?_
  refine s_aload_n F dX2_become_61 rfl 0 rfl ?_
  have hw_10 := wf_ref F.2.2.2.2.2.2.1 hq 7 1 (.inr (0, 12)) rfl
  refine s_getr F ciX2 7 1 (.inr (0, 12)) hq (by decide) rfl rfl m99 dX2_become_62 ?_
  refine s_iconst F (v := 0) dX2_become_65 (by decide) ?_
  refine s_aload_n F dX2_become_66 rfl 0 rfl ?_
  have hw_11 := wf_ref F.2.2.2.2.2.2.1 hq 7 1 (.inr (0, 12)) rfl
  refine s_getr F ciX2 7 1 (.inr (0, 12)) hq (by decide) rfl rfl m99 dX2_become_67 ?_
  refine s_alen F (v := 12) hw_11 rfl dX2_become_70 ?_
  refine s_cpy F (by decide) hw_9 hw_10 m518 m327 m326 m10 (Nat.le_of_ble_eq_true rfl) dX2_become_71 (fun h_12 => ?_)
  refine s_aload_n F dX2_become_74 rfl 1 rfl ?_
  have hw_13 := wf_ref F.2.2.2.2.2.2.1 hr1 8 2 (.inr (0, 12)) rfl
  refine s_getr F ciX2 8 2 (.inr (0, 12)) hr1 (by decide) rfl rfl m102 dX2_become_75 ?_
  refine s_iconst F (v := 0) dX2_become_78 (by decide) ?_
  refine s_aload_n F dX2_become_79 rfl 0 rfl ?_
  have hw_14 := wf_ref F.2.2.2.2.2.2.1 hq 8 2 (.inr (0, 12)) rfl
  refine s_getr F ciX2 8 2 (.inr (0, 12)) hq (by decide) rfl rfl m102 dX2_become_80 ?_
  refine s_iconst F (v := 0) dX2_become_83 (by decide) ?_
  refine s_aload_n F dX2_become_84 rfl 0 rfl ?_
  have hw_15 := wf_ref F.2.2.2.2.2.2.1 hq 8 2 (.inr (0, 12)) rfl
  refine s_getr F ciX2 8 2 (.inr (0, 12)) hq (by decide) rfl rfl m102 dX2_become_85 ?_
  refine s_alen F (v := 12) hw_15 rfl dX2_become_88 ?_
  refine s_cpy F (by decide) hw_13 hw_14 m518 m327 m326 m10 (Nat.le_of_ble_eq_true rfl) dX2_become_89 (fun h_16 => ?_)
  refine s_aload_n F dX2_become_92 rfl 1 rfl ?_
  have hw_17 := wf_ref F.2.2.2.2.2.2.1 hr1 9 3 (.inr (0, 6)) rfl
  refine s_getr F ciX2 9 3 (.inr (0, 6)) hr1 (by decide) rfl rfl m104 dX2_become_93 ?_
  refine s_iconst F (v := 0) dX2_become_96 (by decide) ?_
  refine s_aload_n F dX2_become_97 rfl 0 rfl ?_
  have hw_18 := wf_ref F.2.2.2.2.2.2.1 hq 9 3 (.inr (0, 6)) rfl
  refine s_getr F ciX2 9 3 (.inr (0, 6)) hq (by decide) rfl rfl m104 dX2_become_98 ?_
  refine s_iconst F (v := 0) dX2_become_101 (by decide) ?_
  refine s_aload_n F dX2_become_102 rfl 0 rfl ?_
  have hw_19 := wf_ref F.2.2.2.2.2.2.1 hq 9 3 (.inr (0, 6)) rfl
  refine s_getr F ciX2 9 3 (.inr (0, 6)) hq (by decide) rfl rfl m104 dX2_become_103 ?_
  refine s_alen F (v := 6) hw_19 rfl dX2_become_106 ?_
  refine s_cpy F (by decide) hw_17 hw_18 m518 m327 m326 m10 (Nat.le_of_ble_eq_true rfl) dX2_become_107 (fun h_20 => ?_)
  refine s_aload_n F dX2_become_110 rfl 1 rfl ?_
  have hw_21 := wf_ref F.2.2.2.2.2.2.1 hr1 10 4 (.inr (0, 6)) rfl
  refine s_getr F ciX2 10 4 (.inr (0, 6)) hr1 (by decide) rfl rfl m107 dX2_become_111 ?_
  refine s_iconst F (v := 0) dX2_become_114 (by decide) ?_
  refine s_aload_n F dX2_become_115 rfl 0 rfl ?_
  have hw_22 := wf_ref F.2.2.2.2.2.2.1 hq 10 4 (.inr (0, 6)) rfl
  refine s_getr F ciX2 10 4 (.inr (0, 6)) hq (by decide) rfl rfl m107 dX2_become_116 ?_
  refine s_iconst F (v := 0) dX2_become_119 (by decide) ?_
  refine s_aload_n F dX2_become_120 rfl 0 rfl ?_
  have hw_23 := wf_ref F.2.2.2.2.2.2.1 hq 10 4 (.inr (0, 6)) rfl
  refine s_getr F ciX2 10 4 (.inr (0, 6)) hq (by decide) rfl rfl m107 dX2_become_121 ?_
  refine s_alen F (v := 6) hw_23 rfl dX2_become_124 ?_
  refine s_cpy F (by decide) hw_21 hw_22 m518 m327 m326 m10 (Nat.le_of_ble_eq_true rfl) dX2_become_125 (fun h_24 => ?_)
  refine s_aload_n F dX2_become_128 rfl 1 rfl ?_
  have hw_25 := wf_ref F.2.2.2.2.2.2.1 hr1 11 5 (.inr (0, 6)) rfl
  refine s_getr F ciX2 11 5 (.inr (0, 6)) hr1 (by decide) rfl rfl m110 dX2_become_129 ?_
  refine s_iconst F (v := 0) dX2_become_132 (by decide) ?_
  refine s_aload_n F dX2_become_133 rfl 0 rfl ?_
  have hw_26 := wf_ref F.2.2.2.2.2.2.1 hq 11 5 (.inr (0, 6)) rfl
  refine s_getr F ciX2 11 5 (.inr (0, 6)) hq (by decide) rfl rfl m110 dX2_become_134 ?_
  refine s_iconst F (v := 0) dX2_become_137 (by decide) ?_
  refine s_aload_n F dX2_become_138 rfl 0 rfl ?_
  have hw_27 := wf_ref F.2.2.2.2.2.2.1 hq 11 5 (.inr (0, 6)) rfl
  refine s_getr F ciX2 11 5 (.inr (0, 6)) hq (by decide) rfl rfl m110 dX2_become_139 ?_
  refine s_alen F (v := 6) hw_27 rfl dX2_become_142 ?_
  refine s_cpy F (by decide) hw_25 hw_26 m518 m327 m326 m10 (Nat.le_of_ble_eq_true rfl) dX2_become_143 (fun h_28 => ?_)
  refine s_aload_n F dX2_become_146 rfl 1 rfl ?_
  have hw_29 := wf_ref F.2.2.2.2.2.2.1 hr1 12 6 (.inr (0, 6)) rfl
  refine s_getr F ciX2 12 6 (.inr (0, 6)) hr1 (by decide) rfl rfl m114 dX2_become_147 ?_
  refine s_iconst F (v := 0) dX2_become_150 (by decide) ?_
  refine s_aload_n F dX2_become_151 rfl 0 rfl ?_
  have hw_30 := wf_ref F.2.2.2.2.2.2.1 hq 12 6 (.inr (0, 6)) rfl
  refine s_getr F ciX2 12 6 (.inr (0, 6)) hq (by decide) rfl rfl m114 dX2_become_152 ?_
  refine s_iconst F (v := 0) dX2_become_155 (by decide) ?_
  refine s_aload_n F dX2_become_156 rfl 0 rfl ?_
  have hw_31 := wf_ref F.2.2.2.2.2.2.1 hq 12 6 (.inr (0, 6)) rfl
  refine s_getr F ciX2 12 6 (.inr (0, 6)) hq (by decide) rfl rfl m114 dX2_become_157 ?_
  refine s_alen F (v := 6) hw_31 rfl dX2_become_160 ?_
  refine s_cpy F (by decide) hw_29 hw_30 m518 m327 m326 m10 (Nat.le_of_ble_eq_true rfl) dX2_become_161 (fun h_32 => ?_)
  refine s_aload_n F dX2_become_164 rfl 1 rfl ?_
  have hw_33 := wf_ref F.2.2.2.2.2.2.1 hr1 13 7 (.inr (0, 24)) rfl
  refine s_getr F ciX2 13 7 (.inr (0, 24)) hr1 (by decide) rfl rfl m118 dX2_become_165 ?_
  refine s_iconst F (v := 0) dX2_become_168 (by decide) ?_
  refine s_aload_n F dX2_become_169 rfl 0 rfl ?_
  have hw_34 := wf_ref F.2.2.2.2.2.2.1 hq 13 7 (.inr (0, 24)) rfl
  refine s_getr F ciX2 13 7 (.inr (0, 24)) hq (by decide) rfl rfl m118 dX2_become_170 ?_
  refine s_iconst F (v := 0) dX2_become_173 (by decide) ?_
  refine s_aload_n F dX2_become_174 rfl 0 rfl ?_
  have hw_35 := wf_ref F.2.2.2.2.2.2.1 hq 13 7 (.inr (0, 24)) rfl
  refine s_getr F ciX2 13 7 (.inr (0, 24)) hq (by decide) rfl rfl m118 dX2_become_175 ?_
  refine s_alen F (v := 24) hw_35 rfl dX2_become_178 ?_
  refine s_cpy F (by decide) hw_33 hw_34 m518 m327 m326 m10 (Nat.le_of_ble_eq_true rfl) dX2_become_179 (fun h_36 => ?_)
  refine s_aload_n F dX2_become_182 rfl 1 rfl ?_
  have hw_37 := wf_ref F.2.2.2.2.2.2.1 hr1 14 8 (.inr (0, 24)) rfl
  refine s_getr F ciX2 14 8 (.inr (0, 24)) hr1 (by decide) rfl rfl m120 dX2_become_183 ?_
  refine s_iconst F (v := 0) dX2_become_186 (by decide) ?_
  refine s_aload_n F dX2_become_187 rfl 0 rfl ?_
  have hw_38 := wf_ref F.2.2.2.2.2.2.1 hq 14 8 (.inr (0, 24)) rfl
  refine s_getr F ciX2 14 8 (.inr (0, 24)) hq (by decide) rfl rfl m120 dX2_become_188 ?_
  refine s_iconst F (v := 0) dX2_become_191 (by decide) ?_
  refine s_aload_n F dX2_become_192 rfl 0 rfl ?_
  have hw_39 := wf_ref F.2.2.2.2.2.2.1 hq 14 8 (.inr (0, 24)) rfl
  refine s_getr F ciX2 14 8 (.inr (0, 24)) hq (by decide) rfl rfl m120 dX2_become_193 ?_
  refine s_alen F (v := 24) hw_39 rfl dX2_become_196 ?_
  refine s_cpy F (by decide) hw_37 hw_38 m518 m327 m326 m10 (Nat.le_of_ble_eq_true rfl) dX2_become_197 (fun h_40 => ?_)
  exact s_vret F dX2_become_200
theorem dX2_isArch_0 : decode cX2_isArch 0 = .ok (.iload_n 1, 1) := by decide +kernel
theorem dX2_isArch_1 : decode cX2_isArch 1 = .ok (.ifCond .lt 15, 3) := by decide +kernel
theorem dX2_isArch_4 : decode cX2_isArch 4 = .ok (.iload_n 1, 1) := by decide +kernel
theorem dX2_isArch_5 : decode cX2_isArch 5 = .ok (.aload_n 0, 1) := by decide +kernel
theorem dX2_isArch_6 : decode cX2_isArch 6 = .ok (.getfield 40, 3) := by decide +kernel
theorem dX2_isArch_9 : decode cX2_isArch 9 = .ok (.if_icmp .ge 7, 3) := by decide +kernel
theorem dX2_isArch_12 : decode cX2_isArch 12 = .ok (.iconst 1, 1) := by decide +kernel
theorem dX2_isArch_13 : decode cX2_isArch 13 = .ok (.goto 4, 3) := by decide +kernel
theorem dX2_isArch_16 : decode cX2_isArch 16 = .ok (.iconst 0, 1) := by decide +kernel
theorem dX2_isArch_17 : decode cX2_isArch 17 = .ok (.ireturn, 1) := by decide +kernel
theorem yv_X2_isArch : YV yX2_isArch cX2_isArch 2 (some .boolean) 1 := ⟨m532, m533, m5, m534, ⟨by decide +kernel, by decide +kernel, by decide +kernel⟩, by decide⟩
noncomputable def f_X2_isArch (q : Nat) (x1 : Int32) (h : AH) : Option (Int32 × AH) := if x1 < 0 then (some (0, h)) else (if (h q 1) ≤ x1 then (some (0, h)) else (some (1, h)))
set_option maxRecDepth 20000 in
set_option maxHeartbeats 4000000 in
theorem ct_X2_isArch (l : Launch) (g : GC) {q : Nat} (hq : (gL g)[q]? = some (.inl 2)) (x1 : Int32) : Ct l yX2_isArch cX2_isArch 2 (some .boolean) 1 [.ref (gad g q), .int x1] g mkI (fun h => f_X2_isArch q x1 h) := by
  refine Ct.of (by decide +kernel) (Nat.le_of_ble_eq_true rfl) (fun z A h _ F => ?_)
  show Snd z 2 g A (QF z g A mkI) 0 [(0, .ref (gad g q)), (1, .int x1)] [] h (f_X2_isArch q x1 h)
  unfold f_X2_isArch
  refine s_iload_n F dX2_isArch_0 rfl 1 rfl ?_
  refine s_if_lt F 16 dX2_isArch_1 (by decide) (fun _ => ?_) (fun _ => ?_)
  · refine s_iconst F (v := 0) dX2_isArch_16 (by decide) ?_
    exact s_zret1 F (by decide) dX2_isArch_17
  · refine s_iload_n F dX2_isArch_4 rfl 1 rfl ?_
    refine s_aload_n F dX2_isArch_5 rfl 0 rfl ?_
    refine s_geti F ciX2 1 hq (by decide) rfl rfl m81 dX2_isArch_6 ?_
    refine s_icmp_ge F 16 dX2_isArch_9 (by decide) (fun _ => ?_) (fun _ => ?_)
    · refine s_iconst F (v := 0) dX2_isArch_16 (by decide) ?_
      exact s_zret1 F (by decide) dX2_isArch_17
    · refine s_iconst F (v := 1) dX2_isArch_12 (by decide) ?_
      refine s_goto F 17 dX2_isArch_13 (by decide) ?_
      exact s_zret1 F (by decide) dX2_isArch_17
theorem dX2_isBoat_0 : decode cX2_isBoat 0 = .ok (.iload_n 1, 1) := by decide +kernel
theorem dX2_isBoat_1 : decode cX2_isBoat 1 = .ok (.ifCond .lt 15, 3) := by decide +kernel
theorem dX2_isBoat_4 : decode cX2_isBoat 4 = .ok (.iload_n 1, 1) := by decide +kernel
theorem dX2_isBoat_5 : decode cX2_isBoat 5 = .ok (.aload_n 0, 1) := by decide +kernel
theorem dX2_isBoat_6 : decode cX2_isBoat 6 = .ok (.getfield 44, 3) := by decide +kernel
theorem dX2_isBoat_9 : decode cX2_isBoat 9 = .ok (.if_icmp .ge 7, 3) := by decide +kernel
theorem dX2_isBoat_12 : decode cX2_isBoat 12 = .ok (.iconst 1, 1) := by decide +kernel
theorem dX2_isBoat_13 : decode cX2_isBoat 13 = .ok (.goto 4, 3) := by decide +kernel
theorem dX2_isBoat_16 : decode cX2_isBoat 16 = .ok (.iconst 0, 1) := by decide +kernel
theorem dX2_isBoat_17 : decode cX2_isBoat 17 = .ok (.ireturn, 1) := by decide +kernel
theorem yv_X2_isBoat : YV yX2_isBoat cX2_isBoat 2 (some .boolean) 1 := ⟨m563, m564, m5, m565, ⟨by decide +kernel, by decide +kernel, by decide +kernel⟩, by decide⟩
noncomputable def f_X2_isBoat (q : Nat) (x1 : Int32) (h : AH) : Option (Int32 × AH) := if x1 < 0 then (some (0, h)) else (if (h q 2) ≤ x1 then (some (0, h)) else (some (1, h)))
set_option maxRecDepth 20000 in
set_option maxHeartbeats 4000000 in
theorem ct_X2_isBoat (l : Launch) (g : GC) {q : Nat} (hq : (gL g)[q]? = some (.inl 2)) (x1 : Int32) : Ct l yX2_isBoat cX2_isBoat 2 (some .boolean) 1 [.ref (gad g q), .int x1] g mkI (fun h => f_X2_isBoat q x1 h) := by
  refine Ct.of (by decide +kernel) (Nat.le_of_ble_eq_true rfl) (fun z A h _ F => ?_)
  show Snd z 2 g A (QF z g A mkI) 0 [(0, .ref (gad g q)), (1, .int x1)] [] h (f_X2_isBoat q x1 h)
  unfold f_X2_isBoat
  refine s_iload_n F dX2_isBoat_0 rfl 1 rfl ?_
  refine s_if_lt F 16 dX2_isBoat_1 (by decide) (fun _ => ?_) (fun _ => ?_)
  · refine s_iconst F (v := 0) dX2_isBoat_16 (by decide) ?_
    exact s_zret1 F (by decide) dX2_isBoat_17
  · refine s_iload_n F dX2_isBoat_4 rfl 1 rfl ?_
    refine s_aload_n F dX2_isBoat_5 rfl 0 rfl ?_
    refine s_geti F ciX2 2 hq (by decide) rfl rfl m85 dX2_isBoat_6 ?_
    refine s_icmp_ge F 16 dX2_isBoat_9 (by decide) (fun _ => ?_) (fun _ => ?_)
    · refine s_iconst F (v := 0) dX2_isBoat_16 (by decide) ?_
      exact s_zret1 F (by decide) dX2_isBoat_17
    · refine s_iconst F (v := 1) dX2_isBoat_12 (by decide) ?_
      refine s_goto F 17 dX2_isBoat_13 (by decide) ?_
      exact s_zret1 F (by decide) dX2_isBoat_17
theorem dX2_isShut_0 : decode cX2_isShut 0 = .ok (.aload_n 0, 1) := by decide +kernel
theorem dX2_isShut_1 : decode cX2_isShut 1 = .ok (.getfield 53, 3) := by decide +kernel
theorem dX2_isShut_4 : decode cX2_isShut 4 = .ok (.iload_n 1, 1) := by decide +kernel
theorem dX2_isShut_5 : decode cX2_isShut 5 = .ok (.invokestatic 71, 3) := by decide +kernel
theorem dX2_isShut_8 : decode cX2_isShut 8 = .ok (.iconst 1, 1) := by decide +kernel
theorem dX2_isShut_9 : decode cX2_isShut 9 = .ok (.if_icmp .ne 7, 3) := by decide +kernel
theorem dX2_isShut_12 : decode cX2_isShut 12 = .ok (.iconst 1, 1) := by decide +kernel
theorem dX2_isShut_13 : decode cX2_isShut 13 = .ok (.goto 4, 3) := by decide +kernel
theorem dX2_isShut_16 : decode cX2_isShut 16 = .ok (.iconst 0, 1) := by decide +kernel
theorem dX2_isShut_17 : decode cX2_isShut 17 = .ok (.ireturn, 1) := by decide +kernel
theorem yv_X2_isShut : YV yX2_isShut cX2_isShut 2 (some .boolean) 1 := ⟨m576, m577, m5, m578, ⟨by decide +kernel, by decide +kernel, by decide +kernel⟩, by decide⟩
noncomputable def f_X2_isShut (q : Nat) (x1 : Int32) (h : AH) : Option (Int32 × AH) := bd (f_X7_bitOf (h q 5) x1 h) (fun v_2 h_1 => if v_2 = 1 then (some (1, h_1)) else (some (0, h_1)))
set_option maxRecDepth 20000 in
set_option maxHeartbeats 4000000 in
theorem ct_X2_isShut (l : Launch) (g : GC) {q : Nat} (hq : (gL g)[q]? = some (.inl 2)) (x1 : Int32) : Ct l yX2_isShut cX2_isShut 2 (some .boolean) 2 [.ref (gad g q), .int x1] g mkI (fun h => f_X2_isShut q x1 h) := by
  refine Ct.of (by decide +kernel) (Nat.le_of_ble_eq_true rfl) (fun z A h _ F => ?_)
  show Snd z 2 g A (QF z g A mkI) 0 [(0, .ref (gad g q)), (1, .int x1)] [] h (f_X2_isShut q x1 h)
  unfold f_X2_isShut
  refine s_aload_n F dX2_isShut_0 rfl 0 rfl ?_
  refine s_geti F ciX2 5 hq (by decide) rfl rfl m94 dX2_isShut_1 ?_
  refine s_iload_n F dX2_isShut_4 rfl 1 rfl ?_
  refine s_callSNi (f := fun hh => f_X7_bitOf (h q 5) x1 hh) (As := [.int (h q 5), .int x1]) F ys_X7_bitOf (ct_X7_bitOf z.2.1 g (h q 5) x1) (by decide) (List.mem_of_getElem? (i := 1) rfl) rfl rfl (Nat.le_of_ble_eq_true rfl) dX2_isShut_5 (fun v_2 h_1 e_v_2 => ?_)
  refine s_iconst F (v := 1) dX2_isShut_8 (by decide) ?_
  refine s_icmp_ne F 16 dX2_isShut_9 (by decide) (fun _ => ?_) (fun _ => ?_)
  · refine s_iconst F (v := 0) dX2_isShut_16 (by decide) ?_
    exact s_zret1 F (by decide) dX2_isShut_17
  · refine s_iconst F (v := 1) dX2_isShut_12 (by decide) ?_
    refine s_goto F 17 dX2_isShut_13 (by decide) ?_
    exact s_zret1 F (by decide) dX2_isShut_17
theorem dX2_isGone_0 : decode cX2_isGone 0 = .ok (.aload_n 0, 1) := by decide +kernel
theorem dX2_isGone_1 : decode cX2_isGone 1 = .ok (.getfield 56, 3) := by decide +kernel
theorem dX2_isGone_4 : decode cX2_isGone 4 = .ok (.iload_n 1, 1) := by decide +kernel
theorem dX2_isGone_5 : decode cX2_isGone 5 = .ok (.invokestatic 71, 3) := by decide +kernel
theorem dX2_isGone_8 : decode cX2_isGone 8 = .ok (.iconst 1, 1) := by decide +kernel
theorem dX2_isGone_9 : decode cX2_isGone 9 = .ok (.if_icmp .ne 7, 3) := by decide +kernel
theorem dX2_isGone_12 : decode cX2_isGone 12 = .ok (.iconst 1, 1) := by decide +kernel
theorem dX2_isGone_13 : decode cX2_isGone 13 = .ok (.goto 4, 3) := by decide +kernel
theorem dX2_isGone_16 : decode cX2_isGone 16 = .ok (.iconst 0, 1) := by decide +kernel
theorem dX2_isGone_17 : decode cX2_isGone 17 = .ok (.ireturn, 1) := by decide +kernel
theorem yv_X2_isGone : YV yX2_isGone cX2_isGone 2 (some .boolean) 1 := ⟨m567, m568, m5, m569, ⟨by decide +kernel, by decide +kernel, by decide +kernel⟩, by decide⟩
noncomputable def f_X2_isGone (q : Nat) (x1 : Int32) (h : AH) : Option (Int32 × AH) := bd (f_X7_bitOf (h q 6) x1 h) (fun v_2 h_1 => if v_2 = 1 then (some (1, h_1)) else (some (0, h_1)))
set_option maxRecDepth 20000 in
set_option maxHeartbeats 4000000 in
theorem ct_X2_isGone (l : Launch) (g : GC) {q : Nat} (hq : (gL g)[q]? = some (.inl 2)) (x1 : Int32) : Ct l yX2_isGone cX2_isGone 2 (some .boolean) 2 [.ref (gad g q), .int x1] g mkI (fun h => f_X2_isGone q x1 h) := by
  refine Ct.of (by decide +kernel) (Nat.le_of_ble_eq_true rfl) (fun z A h _ F => ?_)
  show Snd z 2 g A (QF z g A mkI) 0 [(0, .ref (gad g q)), (1, .int x1)] [] h (f_X2_isGone q x1 h)
  unfold f_X2_isGone
  refine s_aload_n F dX2_isGone_0 rfl 0 rfl ?_
  refine s_geti F ciX2 6 hq (by decide) rfl rfl m97 dX2_isGone_1 ?_
  refine s_iload_n F dX2_isGone_4 rfl 1 rfl ?_
  refine s_callSNi (f := fun hh => f_X7_bitOf (h q 6) x1 hh) (As := [.int (h q 6), .int x1]) F ys_X7_bitOf (ct_X7_bitOf z.2.1 g (h q 6) x1) (by decide) (List.mem_of_getElem? (i := 1) rfl) rfl rfl (Nat.le_of_ble_eq_true rfl) dX2_isGone_5 (fun v_2 h_1 e_v_2 => ?_)
  refine s_iconst F (v := 1) dX2_isGone_8 (by decide) ?_
  refine s_icmp_ne F 16 dX2_isGone_9 (by decide) (fun _ => ?_) (fun _ => ?_)
  · refine s_iconst F (v := 0) dX2_isGone_16 (by decide) ?_
    exact s_zret1 F (by decide) dX2_isGone_17
  · refine s_iconst F (v := 1) dX2_isGone_12 (by decide) ?_
    refine s_goto F 17 dX2_isGone_13 (by decide) ?_
    exact s_zret1 F (by decide) dX2_isGone_17
theorem dX2_charterOf_0 : decode cX2_charterOf 0 = .ok (.aload_n 0, 1) := by decide +kernel
theorem dX2_charterOf_1 : decode cX2_charterOf 1 = .ok (.getfield 15, 3) := by decide +kernel
theorem dX2_charterOf_4 : decode cX2_charterOf 4 = .ok (.iload_n 1, 1) := by decide +kernel
theorem dX2_charterOf_5 : decode cX2_charterOf 5 = .ok (.iload_n 2, 1) := by decide +kernel
theorem dX2_charterOf_6 : decode cX2_charterOf 6 = .ok (.invokestatic 75, 3) := by decide +kernel
theorem dX2_charterOf_9 : decode cX2_charterOf 9 = .ok (.iaload, 1) := by decide +kernel
theorem dX2_charterOf_10 : decode cX2_charterOf 10 = .ok (.ireturn, 1) := by decide +kernel
theorem yv_X2_charterOf : YV yX2_charterOf cX2_charterOf 3 (some .int) 2 := ⟨m536, m537, m5, m538, ⟨by decide +kernel, by decide +kernel, by decide +kernel⟩, by decide⟩
noncomputable def f_X2_charterOf (q : Nat) (x1 : Int32) (x2 : Int32) (h : AH) : Option (Int32 × AH) := bd (f_X2_charterPlace x1 x2 h) (fun v_3 h_2 => ck v_3 12 (some (h_2 (q + 2) (v_3 : Int32).toNatClampNeg, h_2)))
set_option maxRecDepth 20000 in
set_option maxHeartbeats 4000000 in
theorem ct_X2_charterOf (l : Launch) (g : GC) {q : Nat} (hq : (gL g)[q]? = some (.inl 2)) (x1 : Int32) (x2 : Int32) : Ct l yX2_charterOf cX2_charterOf 3 (some .int) 2 [.ref (gad g q), .int x1, .int x2] g mkI (fun h => f_X2_charterOf q x1 x2 h) := by
  refine Ct.of (by decide +kernel) (Nat.le_of_ble_eq_true rfl) (fun z A h _ F => ?_)
  show Snd z 3 g A (QF z g A mkI) 0 [(0, .ref (gad g q)), (1, .int x1), (2, .int x2)] [] h (f_X2_charterOf q x1 x2 h)
  unfold f_X2_charterOf
  refine s_aload_n F dX2_charterOf_0 rfl 0 rfl ?_
  have hw_1 := wf_ref F.2.2.2.2.2.2.1 hq 8 2 (.inr (0, 12)) rfl
  refine s_getr F ciX2 8 2 (.inr (0, 12)) hq (by decide) rfl rfl m102 dX2_charterOf_1 ?_
  refine s_iload_n F dX2_charterOf_4 rfl 1 rfl ?_
  refine s_iload_n F dX2_charterOf_5 rfl 2 rfl ?_
  refine s_callSi (f := fun hh => f_X2_charterPlace x1 x2 hh) (As := [.int x1, .int x2]) F ys_X2_charterPlace (ct_X2_charterPlace z.2.1 g x1 x2) (by decide) m539 rfl rfl (Nat.le_of_ble_eq_true rfl) dX2_charterOf_6 (fun v_3 h_2 e_v_3 => ?_)
  refine s_iald F hw_1 dX2_charterOf_9 ?_
  exact s_iret F dX2_charterOf_10
theorem dX2_weightOf_0 : decode cX2_weightOf 0 = .ok (.iconst 0, 1) := by decide +kernel
theorem dX2_weightOf_1 : decode cX2_weightOf 1 = .ok (.istore_n 2, 1) := by decide +kernel
theorem dX2_weightOf_2 : decode cX2_weightOf 2 = .ok (.iconst 0, 1) := by decide +kernel
theorem dX2_weightOf_3 : decode cX2_weightOf 3 = .ok (.istore_n 3, 1) := by decide +kernel
theorem dX2_weightOf_4 : decode cX2_weightOf 4 = .ok (.iload_n 3, 1) := by decide +kernel
theorem dX2_weightOf_5 : decode cX2_weightOf 5 = .ok (.iconst 4, 1) := by decide +kernel
theorem dX2_weightOf_6 : decode cX2_weightOf 6 = .ok (.if_icmp .ge 24, 3) := by decide +kernel
theorem dX2_weightOf_9 : decode cX2_weightOf 9 = .ok (.iload_n 2, 1) := by decide +kernel
theorem dX2_weightOf_10 : decode cX2_weightOf 10 = .ok (.aload_n 0, 1) := by decide +kernel
theorem dX2_weightOf_11 : decode cX2_weightOf 11 = .ok (.iload_n 1, 1) := by decide +kernel
theorem dX2_weightOf_12 : decode cX2_weightOf 12 = .ok (.iload_n 3, 1) := by decide +kernel
theorem dX2_weightOf_13 : decode cX2_weightOf 13 = .ok (.invokevirtual 81, 3) := by decide +kernel
theorem dX2_weightOf_16 : decode cX2_weightOf 16 = .ok (.getstatic 84, 3) := by decide +kernel
theorem dX2_weightOf_19 : decode cX2_weightOf 19 = .ok (.iload_n 3, 1) := by decide +kernel
theorem dX2_weightOf_20 : decode cX2_weightOf 20 = .ok (.iaload, 1) := by decide +kernel
theorem dX2_weightOf_21 : decode cX2_weightOf 21 = .ok (.imul, 1) := by decide +kernel
theorem dX2_weightOf_22 : decode cX2_weightOf 22 = .ok (.iadd, 1) := by decide +kernel
theorem dX2_weightOf_23 : decode cX2_weightOf 23 = .ok (.istore_n 2, 1) := by decide +kernel
theorem dX2_weightOf_24 : decode cX2_weightOf 24 = .ok (.iinc 3 1, 3) := by decide +kernel
theorem dX2_weightOf_27 : decode cX2_weightOf 27 = .ok (.goto (-23), 3) := by decide +kernel
theorem dX2_weightOf_30 : decode cX2_weightOf 30 = .ok (.iload_n 2, 1) := by decide +kernel
theorem dX2_weightOf_31 : decode cX2_weightOf 31 = .ok (.ireturn, 1) := by decide +kernel
theorem yv_X2_weightOf : YV yX2_weightOf cX2_weightOf 4 (some .int) 1 := ⟨m808, m809, m5, m810, ⟨by decide +kernel, by decide +kernel, by decide +kernel⟩, by decide⟩
noncomputable def f_X2_weightOf_4 (q : Nat) : Nat → Int32 → Int32 → Int32 → AH → Option (Int32 × AH)
  | 0, _, _, _, _ => none
  | n + 1, x1, x2, x3, h => if (4 : Int32) ≤ x3 then (some (x2, h)) else (bd (f_X2_loadOf q x1 x3 h) (fun v_2 h_1 => ck x3 4 (lt ((x2 + (v_2 * ((stv 0).getD (x3 : Int32).toNatClampNeg 0)))) (fun v_3 => lt (x3 + 1) (fun v_4 => (f_X2_weightOf_4 q n) x1 v_3 v_4 h_1)))))
set_option maxRecDepth 20000 in
set_option maxHeartbeats 4000000 in
theorem t_X2_weightOf_4 {z : MC} {g : GC} {A : Nat → Prop} (F : Fx z cX2_weightOf 4 RX2 (some .int) 3 g A) {q : Nat} (hq : (gL g)[q]? = some (.inl 2)) : ∀ (n : Nat) (x1 : Int32) (x2 : Int32) (x3 : Int32) (h : AH), Snd z 4 g A (QF z g A mkI) 4 [(0, .ref (gad g q)), (1, .int x1), (2, .int x2), (3, .int x3)] [] h (f_X2_weightOf_4 q n x1 x2 x3 h) := by
  intro n
  induction n with
  | zero => intros; exact s_none
  | succ n ih =>
    intro x1 x2 x3 h
    unfold f_X2_weightOf_4
    refine s_iload_n F dX2_weightOf_4 rfl 3 rfl ?_
    refine s_iconst F (v := 4) dX2_weightOf_5 (by decide) ?_
    refine s_icmp_ge F 30 dX2_weightOf_6 (by decide) (fun _ => ?_) (fun _ => ?_)
    · refine s_iload_n F dX2_weightOf_30 rfl 2 rfl ?_
      exact s_iret F dX2_weightOf_31
    · refine s_iload_n F dX2_weightOf_9 rfl 2 rfl ?_
      refine s_aload_n F dX2_weightOf_10 rfl 0 rfl ?_
      refine s_iload_n F dX2_weightOf_11 rfl 1 rfl ?_
      refine s_iload_n F dX2_weightOf_12 rfl 3 rfl ?_
      refine s_callVi (f := fun hh => f_X2_loadOf q x1 x3 hh) (As := [.int x1, .int x3]) F yv_X2_loadOf (ct_X2_loadOf z.2.1 g hq x1 x3) (by decide) m587 hq rfl rfl rfl (Nat.le_of_ble_eq_true rfl) dX2_weightOf_13 (fun v_2 h_1 e_v_2 => ?_)
      refine s_getsN F 0 (by decide) rfl rfl (List.mem_of_getElem? (i := 15) rfl) dX2_weightOf_16 ?_
      refine s_iload_n F dX2_weightOf_19 rfl 3 rfl ?_
      refine s_tld F 0 (by decide) rfl dX2_weightOf_20 ?_
      refine s_imul F dX2_weightOf_21 ?_
      refine s_iadd F dX2_weightOf_22 ?_
      refine s_leti (fun v_3 => ?_)
      refine s_istore_n F (lv' := [(2, .int v_3), (0, .ref (gad g q)), (1, .int x1), (3, .int x3)]) dX2_weightOf_23 rfl (by decide) rfl ?_
      refine s_iincv F dX2_weightOf_24 3 rfl (by decide) (c := 1) (by decide) (fun v_4 => ?_)
      refine s_lv (lv' := [(3, .int v_4), (2, .int v_3), (0, .ref (gad g q)), (1, .int x1)]) rfl ?_
      refine s_goto F 4 dX2_weightOf_27 (by decide) ?_
      exact s_sub [2, 3, 1, 0] rfl (ih x1 v_3 v_4 h_1)
noncomputable def f_X2_weightOf (q : Nat) (x1 : Int32) (h : AH) : Option (Int32 × AH) := f_X2_weightOf_4 q fu x1 0 0 h
set_option maxRecDepth 20000 in
set_option maxHeartbeats 4000000 in
theorem ct_X2_weightOf (l : Launch) (g : GC) {q : Nat} (hq : (gL g)[q]? = some (.inl 2)) (x1 : Int32) : Ct l yX2_weightOf cX2_weightOf 4 (some .int) 3 [.ref (gad g q), .int x1] g mkI (fun h => f_X2_weightOf q x1 h) := by
  refine Ct.of (by decide +kernel) (Nat.le_of_ble_eq_true rfl) (fun z A h _ F => ?_)
  show Snd z 4 g A (QF z g A mkI) 0 [(0, .ref (gad g q)), (1, .int x1)] [] h (f_X2_weightOf q x1 h)
  unfold f_X2_weightOf
  refine s_iconst F (v := 0) dX2_weightOf_0 (by decide) ?_
  refine s_istore_n F (lv' := [(2, .int 0), (0, .ref (gad g q)), (1, .int x1)]) dX2_weightOf_1 rfl (by decide) rfl ?_
  refine s_iconst F (v := 0) dX2_weightOf_2 (by decide) ?_
  refine s_istore_n F (lv' := [(3, .int 0), (2, .int 0), (0, .ref (gad g q)), (1, .int x1)]) dX2_weightOf_3 rfl (by decide) rfl ?_
  exact s_sub [2, 3, 1, 0] rfl (t_X2_weightOf_4 F hq fu x1 0 0 h)
theorem dX2_tradesOf_0 : decode cX2_tradesOf 0 = .ok (.iconst 0, 1) := by decide +kernel
theorem dX2_tradesOf_1 : decode cX2_tradesOf 1 = .ok (.istore_n 2, 1) := by decide +kernel
theorem dX2_tradesOf_2 : decode cX2_tradesOf 2 = .ok (.iconst 0, 1) := by decide +kernel
theorem dX2_tradesOf_3 : decode cX2_tradesOf 3 = .ok (.istore_n 3, 1) := by decide +kernel
theorem dX2_tradesOf_4 : decode cX2_tradesOf 4 = .ok (.iload_n 3, 1) := by decide +kernel
theorem dX2_tradesOf_5 : decode cX2_tradesOf 5 = .ok (.iconst 4, 1) := by decide +kernel
theorem dX2_tradesOf_6 : decode cX2_tradesOf 6 = .ok (.if_icmp .ge 29, 3) := by decide +kernel
theorem dX2_tradesOf_9 : decode cX2_tradesOf 9 = .ok (.iload_n 2, 1) := by decide +kernel
theorem dX2_tradesOf_10 : decode cX2_tradesOf 10 = .ok (.iload_n 3, 1) := by decide +kernel
theorem dX2_tradesOf_11 : decode cX2_tradesOf 11 = .ok (.aload_n 0, 1) := by decide +kernel
theorem dX2_tradesOf_12 : decode cX2_tradesOf 12 = .ok (.iload_n 1, 1) := by decide +kernel
theorem dX2_tradesOf_13 : decode cX2_tradesOf 13 = .ok (.iload_n 3, 1) := by decide +kernel
theorem dX2_tradesOf_14 : decode cX2_tradesOf 14 = .ok (.invokevirtual 81, 3) := by decide +kernel
theorem dX2_tradesOf_17 : decode cX2_tradesOf 17 = .ok (.ifCond .le 7, 3) := by decide +kernel
theorem dX2_tradesOf_20 : decode cX2_tradesOf 20 = .ok (.iconst 1, 1) := by decide +kernel
theorem dX2_tradesOf_21 : decode cX2_tradesOf 21 = .ok (.goto 4, 3) := by decide +kernel
theorem dX2_tradesOf_24 : decode cX2_tradesOf 24 = .ok (.iconst 0, 1) := by decide +kernel
theorem dX2_tradesOf_25 : decode cX2_tradesOf 25 = .ok (.invokestatic 87, 3) := by decide +kernel
theorem dX2_tradesOf_28 : decode cX2_tradesOf 28 = .ok (.istore_n 2, 1) := by decide +kernel
theorem dX2_tradesOf_29 : decode cX2_tradesOf 29 = .ok (.iinc 3 1, 3) := by decide +kernel
theorem dX2_tradesOf_32 : decode cX2_tradesOf 32 = .ok (.goto (-28), 3) := by decide +kernel
theorem dX2_tradesOf_35 : decode cX2_tradesOf 35 = .ok (.iload_n 2, 1) := by decide +kernel
theorem dX2_tradesOf_36 : decode cX2_tradesOf 36 = .ok (.ireturn, 1) := by decide +kernel
theorem yv_X2_tradesOf : YV yX2_tradesOf cX2_tradesOf 4 (some .int) 1 := ⟨m585, ms11, m5, m586, ⟨by decide +kernel, by decide +kernel, by decide +kernel⟩, by decide⟩
noncomputable def f_X2_tradesOf_4 (q : Nat) : Nat → Int32 → Int32 → Int32 → AH → Option (Int32 × AH)
  | 0, _, _, _, _ => none
  | n + 1, x1, x2, x3, h => if (4 : Int32) ≤ x3 then (some (x2, h)) else (bd (f_X2_loadOf q x1 x3 h) (fun v_2 h_1 => if v_2 ≤ 0 then (bd (f_X7_withBit x2 x3 0 h_1) (fun v_4 h_3 => lt (x3 + 1) (fun v_5 => (f_X2_tradesOf_4 q n) x1 v_4 v_5 h_3))) else (bd (f_X7_withBit x2 x3 1 h_1) (fun v_7 h_6 => lt (x3 + 1) (fun v_8 => (f_X2_tradesOf_4 q n) x1 v_7 v_8 h_6)))))
set_option maxRecDepth 20000 in
set_option maxHeartbeats 4000000 in
theorem t_X2_tradesOf_4 {z : MC} {g : GC} {A : Nat → Prop} (F : Fx z cX2_tradesOf 4 RX2 (some .int) 3 g A) {q : Nat} (hq : (gL g)[q]? = some (.inl 2)) : ∀ (n : Nat) (x1 : Int32) (x2 : Int32) (x3 : Int32) (h : AH), Snd z 4 g A (QF z g A mkI) 4 [(0, .ref (gad g q)), (1, .int x1), (2, .int x2), (3, .int x3)] [] h (f_X2_tradesOf_4 q n x1 x2 x3 h) := by
  intro n
  induction n with
  | zero => intros; exact s_none
  | succ n ih =>
    intro x1 x2 x3 h
    unfold f_X2_tradesOf_4
    refine s_iload_n F dX2_tradesOf_4 rfl 3 rfl ?_
    refine s_iconst F (v := 4) dX2_tradesOf_5 (by decide) ?_
    refine s_icmp_ge F 35 dX2_tradesOf_6 (by decide) (fun _ => ?_) (fun _ => ?_)
    · refine s_iload_n F dX2_tradesOf_35 rfl 2 rfl ?_
      exact s_iret F dX2_tradesOf_36
    · refine s_iload_n F dX2_tradesOf_9 rfl 2 rfl ?_
      refine s_iload_n F dX2_tradesOf_10 rfl 3 rfl ?_
      refine s_aload_n F dX2_tradesOf_11 rfl 0 rfl ?_
      refine s_iload_n F dX2_tradesOf_12 rfl 1 rfl ?_
      refine s_iload_n F dX2_tradesOf_13 rfl 3 rfl ?_
      refine s_callVi (f := fun hh => f_X2_loadOf q x1 x3 hh) (As := [.int x1, .int x3]) F yv_X2_loadOf (ct_X2_loadOf z.2.1 g hq x1 x3) (by decide) m587 hq rfl rfl rfl (Nat.le_of_ble_eq_true rfl) dX2_tradesOf_14 (fun v_2 h_1 e_v_2 => ?_)
      refine s_if_le F 24 dX2_tradesOf_17 (by decide) (fun _ => ?_) (fun _ => ?_)
      · refine s_iconst F (v := 0) dX2_tradesOf_24 (by decide) ?_
        refine s_callSNi (f := fun hh => f_X7_withBit x2 x3 0 hh) (As := [.int x2, .int x3, .int 0]) F ys_X7_withBit (ct_X7_withBit z.2.1 g x2 x3 0) (by decide) (List.mem_of_getElem? (i := 2) rfl) rfl rfl (Nat.le_of_ble_eq_true rfl) dX2_tradesOf_25 (fun v_4 h_3 e_v_4 => ?_)
        refine s_istore_n F (lv' := [(2, .int v_4), (0, .ref (gad g q)), (1, .int x1), (3, .int x3)]) dX2_tradesOf_28 rfl (by decide) rfl ?_
        refine s_iincv F dX2_tradesOf_29 3 rfl (by decide) (c := 1) (by decide) (fun v_5 => ?_)
        refine s_lv (lv' := [(3, .int v_5), (2, .int v_4), (0, .ref (gad g q)), (1, .int x1)]) rfl ?_
        refine s_goto F 4 dX2_tradesOf_32 (by decide) ?_
        exact s_sub [2, 3, 1, 0] rfl (ih x1 v_4 v_5 h_3)
      · refine s_iconst F (v := 1) dX2_tradesOf_20 (by decide) ?_
        refine s_goto F 25 dX2_tradesOf_21 (by decide) ?_
        refine s_callSNi (f := fun hh => f_X7_withBit x2 x3 1 hh) (As := [.int x2, .int x3, .int 1]) F ys_X7_withBit (ct_X7_withBit z.2.1 g x2 x3 1) (by decide) (List.mem_of_getElem? (i := 2) rfl) rfl rfl (Nat.le_of_ble_eq_true rfl) dX2_tradesOf_25 (fun v_7 h_6 e_v_7 => ?_)
        refine s_istore_n F (lv' := [(2, .int v_7), (0, .ref (gad g q)), (1, .int x1), (3, .int x3)]) dX2_tradesOf_28 rfl (by decide) rfl ?_
        refine s_iincv F dX2_tradesOf_29 3 rfl (by decide) (c := 1) (by decide) (fun v_8 => ?_)
        refine s_lv (lv' := [(3, .int v_8), (2, .int v_7), (0, .ref (gad g q)), (1, .int x1)]) rfl ?_
        refine s_goto F 4 dX2_tradesOf_32 (by decide) ?_
        exact s_sub [2, 3, 1, 0] rfl (ih x1 v_7 v_8 h_6)
noncomputable def f_X2_tradesOf (q : Nat) (x1 : Int32) (h : AH) : Option (Int32 × AH) := f_X2_tradesOf_4 q fu x1 0 0 h
set_option maxRecDepth 20000 in
set_option maxHeartbeats 4000000 in
theorem ct_X2_tradesOf (l : Launch) (g : GC) {q : Nat} (hq : (gL g)[q]? = some (.inl 2)) (x1 : Int32) : Ct l yX2_tradesOf cX2_tradesOf 4 (some .int) 3 [.ref (gad g q), .int x1] g mkI (fun h => f_X2_tradesOf q x1 h) := by
  refine Ct.of (by decide +kernel) (Nat.le_of_ble_eq_true rfl) (fun z A h _ F => ?_)
  show Snd z 4 g A (QF z g A mkI) 0 [(0, .ref (gad g q)), (1, .int x1)] [] h (f_X2_tradesOf q x1 h)
  unfold f_X2_tradesOf
  refine s_iconst F (v := 0) dX2_tradesOf_0 (by decide) ?_
  refine s_istore_n F (lv' := [(2, .int 0), (0, .ref (gad g q)), (1, .int x1)]) dX2_tradesOf_1 rfl (by decide) rfl ?_
  refine s_iconst F (v := 0) dX2_tradesOf_2 (by decide) ?_
  refine s_istore_n F (lv' := [(3, .int 0), (2, .int 0), (0, .ref (gad g q)), (1, .int x1)]) dX2_tradesOf_3 rfl (by decide) rfl ?_
  exact s_sub [2, 3, 1, 0] rfl (t_X2_tradesOf_4 F hq fu x1 0 0 h)
theorem dX2_isMixed_0 : decode cX2_isMixed 0 = .ok (.aload_n 0, 1) := by decide +kernel
theorem dX2_isMixed_1 : decode cX2_isMixed 1 = .ok (.iload_n 1, 1) := by decide +kernel
theorem dX2_isMixed_2 : decode cX2_isMixed 2 = .ok (.invokevirtual 91, 3) := by decide +kernel
theorem dX2_isMixed_5 : decode cX2_isMixed 5 = .ok (.invokestatic 95, 3) := by decide +kernel
theorem dX2_isMixed_8 : decode cX2_isMixed 8 = .ok (.iconst 1, 1) := by decide +kernel
theorem dX2_isMixed_9 : decode cX2_isMixed 9 = .ok (.if_icmp .le 7, 3) := by decide +kernel
theorem dX2_isMixed_12 : decode cX2_isMixed 12 = .ok (.iconst 1, 1) := by decide +kernel
theorem dX2_isMixed_13 : decode cX2_isMixed 13 = .ok (.goto 4, 3) := by decide +kernel
theorem dX2_isMixed_16 : decode cX2_isMixed 16 = .ok (.iconst 0, 1) := by decide +kernel
theorem dX2_isMixed_17 : decode cX2_isMixed 17 = .ok (.ireturn, 1) := by decide +kernel
theorem yv_X2_isMixed : YV yX2_isMixed cX2_isMixed 2 (some .boolean) 1 := ⟨m623, m624, m5, m625, ⟨by decide +kernel, by decide +kernel, by decide +kernel⟩, by decide⟩
noncomputable def f_X2_isMixed (q : Nat) (x1 : Int32) (h : AH) : Option (Int32 × AH) := bd (f_X2_tradesOf q x1 h) (fun v_2 h_1 => bd (f_J6_bitCount_0f7a4 v_2 h_1) (fun v_4 h_3 => if v_4 ≤ 1 then (some (0, h_3)) else (some (1, h_3))))
set_option maxRecDepth 20000 in
set_option maxHeartbeats 4000000 in
theorem ct_X2_isMixed (l : Launch) (g : GC) {q : Nat} (hq : (gL g)[q]? = some (.inl 2)) (x1 : Int32) : Ct l yX2_isMixed cX2_isMixed 2 (some .boolean) 4 [.ref (gad g q), .int x1] g mkI (fun h => f_X2_isMixed q x1 h) := by
  refine Ct.of (by decide +kernel) (Nat.le_of_ble_eq_true rfl) (fun z A h _ F => ?_)
  show Snd z 2 g A (QF z g A mkI) 0 [(0, .ref (gad g q)), (1, .int x1)] [] h (f_X2_isMixed q x1 h)
  unfold f_X2_isMixed
  refine s_aload_n F dX2_isMixed_0 rfl 0 rfl ?_
  refine s_iload_n F dX2_isMixed_1 rfl 1 rfl ?_
  refine s_callVi (f := fun hh => f_X2_tradesOf q x1 hh) (As := [.int x1]) F yv_X2_tradesOf (ct_X2_tradesOf z.2.1 g hq x1) (by decide) m583 hq rfl rfl rfl (Nat.le_of_ble_eq_true rfl) dX2_isMixed_2 (fun v_2 h_1 e_v_2 => ?_)
  refine s_callSi (f := fun hh => f_J6_bitCount_0f7a4 v_2 hh) (As := [.int v_2]) F ys_J6_bitCount_0f7a4 (ct_J6_bitCount_0f7a4 z.2.1 g v_2) (by decide) m593 rfl rfl (Nat.le_of_ble_eq_true rfl) dX2_isMixed_5 (fun v_4 h_3 e_v_4 => ?_)
  refine s_iconst F (v := 1) dX2_isMixed_8 (by decide) ?_
  refine s_icmp_le F 16 dX2_isMixed_9 (by decide) (fun _ => ?_) (fun _ => ?_)
  · refine s_iconst F (v := 0) dX2_isMixed_16 (by decide) ?_
    exact s_zret1 F (by decide) dX2_isMixed_17
  · refine s_iconst F (v := 1) dX2_isMixed_12 (by decide) ?_
    refine s_goto F 17 dX2_isMixed_13 (by decide) ?_
    exact s_zret1 F (by decide) dX2_isMixed_17
theorem dX2_portersOf_0 : decode cX2_portersOf 0 = .ok (.iconst 0, 1) := by decide +kernel
theorem dX2_portersOf_1 : decode cX2_portersOf 1 = .ok (.istore_n 2, 1) := by decide +kernel
theorem dX2_portersOf_2 : decode cX2_portersOf 2 = .ok (.iconst 0, 1) := by decide +kernel
theorem dX2_portersOf_3 : decode cX2_portersOf 3 = .ok (.istore_n 3, 1) := by decide +kernel
theorem dX2_portersOf_4 : decode cX2_portersOf 4 = .ok (.iload_n 3, 1) := by decide +kernel
theorem dX2_portersOf_5 : decode cX2_portersOf 5 = .ok (.iconst 4, 1) := by decide +kernel
theorem dX2_portersOf_6 : decode cX2_portersOf 6 = .ok (.if_icmp .ge 20, 3) := by decide +kernel
theorem dX2_portersOf_9 : decode cX2_portersOf 9 = .ok (.iload_n 2, 1) := by decide +kernel
theorem dX2_portersOf_10 : decode cX2_portersOf 10 = .ok (.aload_n 0, 1) := by decide +kernel
theorem dX2_portersOf_11 : decode cX2_portersOf 11 = .ok (.iload_n 1, 1) := by decide +kernel
theorem dX2_portersOf_12 : decode cX2_portersOf 12 = .ok (.iload_n 3, 1) := by decide +kernel
theorem dX2_portersOf_13 : decode cX2_portersOf 13 = .ok (.invokevirtual 81, 3) := by decide +kernel
theorem dX2_portersOf_16 : decode cX2_portersOf 16 = .ok (.invokestatic 100, 3) := by decide +kernel
theorem dX2_portersOf_19 : decode cX2_portersOf 19 = .ok (.istore_n 2, 1) := by decide +kernel
theorem dX2_portersOf_20 : decode cX2_portersOf 20 = .ok (.iinc 3 1, 3) := by decide +kernel
theorem dX2_portersOf_23 : decode cX2_portersOf 23 = .ok (.goto (-19), 3) := by decide +kernel
theorem dX2_portersOf_26 : decode cX2_portersOf 26 = .ok (.aload_n 0, 1) := by decide +kernel
theorem dX2_portersOf_27 : decode cX2_portersOf 27 = .ok (.iload_n 1, 1) := by decide +kernel
theorem dX2_portersOf_28 : decode cX2_portersOf 28 = .ok (.invokevirtual 105, 3) := by decide +kernel
theorem dX2_portersOf_31 : decode cX2_portersOf 31 = .ok (.iload_n 2, 1) := by decide +kernel
theorem dX2_portersOf_32 : decode cX2_portersOf 32 = .ok (.isub, 1) := by decide +kernel
theorem dX2_portersOf_33 : decode cX2_portersOf 33 = .ok (.ireturn, 1) := by decide +kernel
theorem yv_X2_portersOf : YV yX2_portersOf cX2_portersOf 4 (some .int) 1 := ⟨m682, m683, m5, m684, ⟨by decide +kernel, by decide +kernel, by decide +kernel⟩, by decide⟩
noncomputable def f_X2_portersOf_4 (q : Nat) : Nat → Int32 → Int32 → Int32 → AH → Option (Int32 × AH)
  | 0, _, _, _, _ => none
  | n + 1, x1, x2, x3, h => if (4 : Int32) ≤ x3 then (bd (f_X2_allOf q x1 h) (fun v_2 h_1 => some ((v_2 - x2), h_1))) else (bd (f_X2_loadOf q x1 x3 h) (fun v_4 h_3 => lt ((if x2 < v_4 then v_4 else x2)) (fun v_5 => lt (x3 + 1) (fun v_6 => (f_X2_portersOf_4 q n) x1 v_5 v_6 h_3))))
set_option maxRecDepth 20000 in
set_option maxHeartbeats 4000000 in
theorem t_X2_portersOf_4 {z : MC} {g : GC} {A : Nat → Prop} (F : Fx z cX2_portersOf 4 RX2 (some .int) 4 g A) {q : Nat} (hq : (gL g)[q]? = some (.inl 2)) : ∀ (n : Nat) (x1 : Int32) (x2 : Int32) (x3 : Int32) (h : AH), Snd z 4 g A (QF z g A mkI) 4 [(0, .ref (gad g q)), (1, .int x1), (2, .int x2), (3, .int x3)] [] h (f_X2_portersOf_4 q n x1 x2 x3 h) := by
  intro n
  induction n with
  | zero => intros; exact s_none
  | succ n ih =>
    intro x1 x2 x3 h
    unfold f_X2_portersOf_4
    refine s_iload_n F dX2_portersOf_4 rfl 3 rfl ?_
    refine s_iconst F (v := 4) dX2_portersOf_5 (by decide) ?_
    refine s_icmp_ge F 26 dX2_portersOf_6 (by decide) (fun _ => ?_) (fun _ => ?_)
    · refine s_aload_n F dX2_portersOf_26 rfl 0 rfl ?_
      refine s_iload_n F dX2_portersOf_27 rfl 1 rfl ?_
      refine s_callVi (f := fun hh => f_X2_allOf q x1 hh) (As := [.int x1]) F yv_X2_allOf (ct_X2_allOf z.2.1 g hq x1) (by decide) m618 hq rfl rfl rfl (Nat.le_of_ble_eq_true rfl) dX2_portersOf_28 (fun v_2 h_1 e_v_2 => ?_)
      refine s_iload_n F dX2_portersOf_31 rfl 2 rfl ?_
      refine s_isub F dX2_portersOf_32 ?_
      exact s_iret F dX2_portersOf_33
    · refine s_iload_n F dX2_portersOf_9 rfl 2 rfl ?_
      refine s_aload_n F dX2_portersOf_10 rfl 0 rfl ?_
      refine s_iload_n F dX2_portersOf_11 rfl 1 rfl ?_
      refine s_iload_n F dX2_portersOf_12 rfl 3 rfl ?_
      refine s_callVi (f := fun hh => f_X2_loadOf q x1 x3 hh) (As := [.int x1, .int x3]) F yv_X2_loadOf (ct_X2_loadOf z.2.1 g hq x1 x3) (by decide) m587 hq rfl rfl rfl (Nat.le_of_ble_eq_true rfl) dX2_portersOf_13 (fun v_4 h_3 e_v_4 => ?_)
      refine s_mmax F (by decide) m685 m686 m17 m687 (Nat.le_of_ble_eq_true rfl) dX2_portersOf_16 ?_
      refine s_leti (fun v_5 => ?_)
      refine s_istore_n F (lv' := [(2, .int v_5), (0, .ref (gad g q)), (1, .int x1), (3, .int x3)]) dX2_portersOf_19 rfl (by decide) rfl ?_
      refine s_iincv F dX2_portersOf_20 3 rfl (by decide) (c := 1) (by decide) (fun v_6 => ?_)
      refine s_lv (lv' := [(3, .int v_6), (2, .int v_5), (0, .ref (gad g q)), (1, .int x1)]) rfl ?_
      refine s_goto F 4 dX2_portersOf_23 (by decide) ?_
      exact s_sub [2, 3, 1, 0] rfl (ih x1 v_5 v_6 h_3)
noncomputable def f_X2_portersOf (q : Nat) (x1 : Int32) (h : AH) : Option (Int32 × AH) := f_X2_portersOf_4 q fu x1 0 0 h
set_option maxRecDepth 20000 in
set_option maxHeartbeats 4000000 in
theorem ct_X2_portersOf (l : Launch) (g : GC) {q : Nat} (hq : (gL g)[q]? = some (.inl 2)) (x1 : Int32) : Ct l yX2_portersOf cX2_portersOf 4 (some .int) 4 [.ref (gad g q), .int x1] g mkI (fun h => f_X2_portersOf q x1 h) := by
  refine Ct.of (by decide +kernel) (Nat.le_of_ble_eq_true rfl) (fun z A h _ F => ?_)
  show Snd z 4 g A (QF z g A mkI) 0 [(0, .ref (gad g q)), (1, .int x1)] [] h (f_X2_portersOf q x1 h)
  unfold f_X2_portersOf
  refine s_iconst F (v := 0) dX2_portersOf_0 (by decide) ?_
  refine s_istore_n F (lv' := [(2, .int 0), (0, .ref (gad g q)), (1, .int x1)]) dX2_portersOf_1 rfl (by decide) rfl ?_
  refine s_iconst F (v := 0) dX2_portersOf_2 (by decide) ?_
  refine s_istore_n F (lv' := [(3, .int 0), (2, .int 0), (0, .ref (gad g q)), (1, .int x1)]) dX2_portersOf_3 rfl (by decide) rfl ?_
  exact s_sub [2, 3, 1, 0] rfl (t_X2_portersOf_4 F hq fu x1 0 0 h)
theorem dX2_tollOf_0 : decode cX2_tollOf 0 = .ok (.aload_n 0, 1) := by decide +kernel
theorem dX2_tollOf_1 : decode cX2_tollOf 1 = .ok (.getfield 21, 3) := by decide +kernel
theorem dX2_tollOf_4 : decode cX2_tollOf 4 = .ok (.iload_n 2, 1) := by decide +kernel
theorem dX2_tollOf_5 : decode cX2_tollOf 5 = .ok (.iaload, 1) := by decide +kernel
theorem dX2_tollOf_6 : decode cX2_tollOf 6 = .ok (.aload_n 0, 1) := by decide +kernel
theorem dX2_tollOf_7 : decode cX2_tollOf 7 = .ok (.iload_n 1, 1) := by decide +kernel
theorem dX2_tollOf_8 : decode cX2_tollOf 8 = .ok (.invokevirtual 105, 3) := by decide +kernel
theorem dX2_tollOf_11 : decode cX2_tollOf 11 = .ok (.imul, 1) := by decide +kernel
theorem dX2_tollOf_12 : decode cX2_tollOf 12 = .ok (.istore_n 3, 1) := by decide +kernel
theorem dX2_tollOf_13 : decode cX2_tollOf 13 = .ok (.aload_n 0, 1) := by decide +kernel
theorem dX2_tollOf_14 : decode cX2_tollOf 14 = .ok (.iload_n 1, 1) := by decide +kernel
theorem dX2_tollOf_15 : decode cX2_tollOf 15 = .ok (.invokevirtual 108, 3) := by decide +kernel
theorem dX2_tollOf_18 : decode cX2_tollOf 18 = .ok (.ifCond .eq 9, 3) := by decide +kernel
theorem dX2_tollOf_21 : decode cX2_tollOf 21 = .ok (.iconst 2, 1) := by decide +kernel
theorem dX2_tollOf_22 : decode cX2_tollOf 22 = .ok (.iload_n 3, 1) := by decide +kernel
theorem dX2_tollOf_23 : decode cX2_tollOf 23 = .ok (.imul, 1) := by decide +kernel
theorem dX2_tollOf_24 : decode cX2_tollOf 24 = .ok (.goto 4, 3) := by decide +kernel
theorem dX2_tollOf_27 : decode cX2_tollOf 27 = .ok (.iload_n 3, 1) := by decide +kernel
theorem dX2_tollOf_28 : decode cX2_tollOf 28 = .ok (.ireturn, 1) := by decide +kernel
theorem yv_X2_tollOf : YV yX2_tollOf cX2_tollOf 4 (some .int) 2 := ⟨m615, m616, m5, m617, ⟨by decide +kernel, by decide +kernel, by decide +kernel⟩, by decide⟩
noncomputable def f_X2_tollOf (q : Nat) (x1 : Int32) (x2 : Int32) (h : AH) : Option (Int32 × AH) := ck x2 6 (bd (f_X2_allOf q x1 h) (fun v_3 h_2 => lt (((h (q + 4) (x2 : Int32).toNatClampNeg) * v_3)) (fun v_4 => bd (f_X2_isMixed q x1 h_2) (fun v_6 h_5 => if v_6 = 0 then (some (v_4, h_5)) else (some ((2 * v_4), h_5))))))
set_option maxRecDepth 20000 in
set_option maxHeartbeats 4000000 in
theorem ct_X2_tollOf (l : Launch) (g : GC) {q : Nat} (hq : (gL g)[q]? = some (.inl 2)) (x1 : Int32) (x2 : Int32) : Ct l yX2_tollOf cX2_tollOf 4 (some .int) 5 [.ref (gad g q), .int x1, .int x2] g mkI (fun h => f_X2_tollOf q x1 x2 h) := by
  refine Ct.of (by decide +kernel) (Nat.le_of_ble_eq_true rfl) (fun z A h _ F => ?_)
  show Snd z 4 g A (QF z g A mkI) 0 [(0, .ref (gad g q)), (1, .int x1), (2, .int x2)] [] h (f_X2_tollOf q x1 x2 h)
  unfold f_X2_tollOf
  refine s_aload_n F dX2_tollOf_0 rfl 0 rfl ?_
  have hw_1 := wf_ref F.2.2.2.2.2.2.1 hq 10 4 (.inr (0, 6)) rfl
  refine s_getr F ciX2 10 4 (.inr (0, 6)) hq (by decide) rfl rfl m107 dX2_tollOf_1 ?_
  refine s_iload_n F dX2_tollOf_4 rfl 2 rfl ?_
  refine s_iald F hw_1 dX2_tollOf_5 ?_
  refine s_aload_n F dX2_tollOf_6 rfl 0 rfl ?_
  refine s_iload_n F dX2_tollOf_7 rfl 1 rfl ?_
  refine s_callVi (f := fun hh => f_X2_allOf q x1 hh) (As := [.int x1]) F yv_X2_allOf (ct_X2_allOf z.2.1 g hq x1) (by decide) m618 hq rfl rfl rfl (Nat.le_of_ble_eq_true rfl) dX2_tollOf_8 (fun v_3 h_2 e_v_3 => ?_)
  refine s_imul F dX2_tollOf_11 ?_
  refine s_leti (fun v_4 => ?_)
  refine s_istore_n F (lv' := [(3, .int v_4), (0, .ref (gad g q)), (1, .int x1), (2, .int x2)]) dX2_tollOf_12 rfl (by decide) rfl ?_
  refine s_aload_n F dX2_tollOf_13 rfl 1 rfl ?_
  refine s_iload_n F dX2_tollOf_14 rfl 2 rfl ?_
  refine s_callVi (f := fun hh => f_X2_isMixed q x1 hh) (As := [.int x1]) F yv_X2_isMixed (ct_X2_isMixed z.2.1 g hq x1) (by decide) m622 hq rfl rfl rfl (Nat.le_of_ble_eq_true rfl) dX2_tollOf_15 (fun v_6 h_5 e_v_6 => ?_)
  refine s_if_eq F 27 dX2_tollOf_18 (by decide) (fun _ => ?_) (fun _ => ?_)
  · refine s_iload_n F dX2_tollOf_27 rfl 0 rfl ?_
    exact s_iret F dX2_tollOf_28
  · refine s_iconst F (v := 2) dX2_tollOf_21 (by decide) ?_
    refine s_iload_n F dX2_tollOf_22 rfl 0 rfl ?_
    refine s_imul F dX2_tollOf_23 ?_
    refine s_goto F 28 dX2_tollOf_24 (by decide) ?_
    exact s_iret F dX2_tollOf_28
theorem dX2_chartersFor_0 : decode cX2_chartersFor 0 = .ok (.aload_n 0, 1) := by decide +kernel
theorem dX2_chartersFor_1 : decode cX2_chartersFor 1 = .ok (.iload_n 1, 1) := by decide +kernel
theorem dX2_chartersFor_2 : decode cX2_chartersFor 2 = .ok (.invokevirtual 91, 3) := by decide +kernel
theorem dX2_chartersFor_5 : decode cX2_chartersFor 5 = .ok (.istore_n 2, 1) := by decide +kernel
theorem dX2_chartersFor_6 : decode cX2_chartersFor 6 = .ok (.iload_n 2, 1) := by decide +kernel
theorem dX2_chartersFor_7 : decode cX2_chartersFor 7 = .ok (.ifCond .ne 6, 3) := by decide +kernel
theorem dX2_chartersFor_10 : decode cX2_chartersFor 10 = .ok (.bipush 31, 2) := by decide +kernel
theorem dX2_chartersFor_12 : decode cX2_chartersFor 12 = .ok (.ireturn, 1) := by decide +kernel
theorem dX2_chartersFor_13 : decode cX2_chartersFor 13 = .ok (.iload_n 2, 1) := by decide +kernel
theorem dX2_chartersFor_14 : decode cX2_chartersFor 14 = .ok (.invokestatic 95, 3) := by decide +kernel
theorem dX2_chartersFor_17 : decode cX2_chartersFor 17 = .ok (.iconst 1, 1) := by decide +kernel
theorem dX2_chartersFor_18 : decode cX2_chartersFor 18 = .ok (.if_icmp .le 8, 3) := by decide +kernel
theorem dX2_chartersFor_21 : decode cX2_chartersFor 21 = .ok (.bipush 16, 2) := by decide +kernel
theorem dX2_chartersFor_23 : decode cX2_chartersFor 23 = .ok (.goto 7, 3) := by decide +kernel
theorem dX2_chartersFor_26 : decode cX2_chartersFor 26 = .ok (.bipush 16, 2) := by decide +kernel
theorem dX2_chartersFor_28 : decode cX2_chartersFor 28 = .ok (.iload_n 2, 1) := by decide +kernel
theorem dX2_chartersFor_29 : decode cX2_chartersFor 29 = .ok (.ior, 1) := by decide +kernel
theorem dX2_chartersFor_30 : decode cX2_chartersFor 30 = .ok (.ireturn, 1) := by decide +kernel
theorem yv_X2_chartersFor : YV yX2_chartersFor cX2_chartersFor 3 (some .int) 1 := ⟨m580, m581, m5, m582, ⟨by decide +kernel, by decide +kernel, by decide +kernel⟩, by decide⟩
noncomputable def f_X2_chartersFor (q : Nat) (x1 : Int32) (h : AH) : Option (Int32 × AH) := bd (f_X2_tradesOf q x1 h) (fun v_2 h_1 => if v_2 = 0 then (some (31, h_1)) else (bd (f_J6_bitCount_0f7a4 v_2 h_1) (fun v_4 h_3 => if v_4 ≤ 1 then (some ((16 ||| v_2), h_3)) else (some (16, h_3)))))
set_option maxRecDepth 20000 in
set_option maxHeartbeats 4000000 in
theorem ct_X2_chartersFor (l : Launch) (g : GC) {q : Nat} (hq : (gL g)[q]? = some (.inl 2)) (x1 : Int32) : Ct l yX2_chartersFor cX2_chartersFor 3 (some .int) 4 [.ref (gad g q), .int x1] g mkI (fun h => f_X2_chartersFor q x1 h) := by
  refine Ct.of (by decide +kernel) (Nat.le_of_ble_eq_true rfl) (fun z A h _ F => ?_)
  show Snd z 3 g A (QF z g A mkI) 0 [(0, .ref (gad g q)), (1, .int x1)] [] h (f_X2_chartersFor q x1 h)
  unfold f_X2_chartersFor
  refine s_aload_n F dX2_chartersFor_0 rfl 0 rfl ?_
  refine s_iload_n F dX2_chartersFor_1 rfl 1 rfl ?_
  refine s_callVi (f := fun hh => f_X2_tradesOf q x1 hh) (As := [.int x1]) F yv_X2_tradesOf (ct_X2_tradesOf z.2.1 g hq x1) (by decide) m583 hq rfl rfl rfl (Nat.le_of_ble_eq_true rfl) dX2_chartersFor_2 (fun v_2 h_1 e_v_2 => ?_)
  refine s_istore_n F (lv' := [(2, .int v_2), (0, .ref (gad g q)), (1, .int x1)]) dX2_chartersFor_5 rfl (by decide) rfl ?_
  refine s_iload_n F dX2_chartersFor_6 rfl 0 rfl ?_
  refine s_if_ne F 13 dX2_chartersFor_7 (by decide) (fun _ => ?_) (fun _ => ?_)
  · refine s_iload_n F dX2_chartersFor_13 rfl 0 rfl ?_
    refine s_callSi (f := fun hh => f_J6_bitCount_0f7a4 v_2 hh) (As := [.int v_2]) F ys_J6_bitCount_0f7a4 (ct_J6_bitCount_0f7a4 z.2.1 g v_2) (by decide) m593 rfl rfl (Nat.le_of_ble_eq_true rfl) dX2_chartersFor_14 (fun v_4 h_3 e_v_4 => ?_)
    refine s_iconst F (v := 1) dX2_chartersFor_17 (by decide) ?_
    refine s_icmp_le F 26 dX2_chartersFor_18 (by decide) (fun _ => ?_) (fun _ => ?_)
    · refine s_bipush F (v := 16) dX2_chartersFor_26 (by decide) ?_
      refine s_iload_n F dX2_chartersFor_28 rfl 0 rfl ?_
      refine s_ior F dX2_chartersFor_29 ?_
      exact s_iret F dX2_chartersFor_30
    · refine s_bipush F (v := 16) dX2_chartersFor_21 (by decide) ?_
      refine s_goto F 30 dX2_chartersFor_23 (by decide) ?_
      exact s_iret F dX2_chartersFor_30
  · refine s_bipush F (v := 31) dX2_chartersFor_10 (by decide) ?_
    exact s_iret F dX2_chartersFor_12
theorem dX2_hasRoom_0 : decode cX2_hasRoom 0 = .ok (.aload_n 0, 1) := by decide +kernel
theorem dX2_hasRoom_1 : decode cX2_hasRoom 1 = .ok (.getfield 18, 3) := by decide +kernel
theorem dX2_hasRoom_4 : decode cX2_hasRoom 4 = .ok (.iload_n 2, 1) := by decide +kernel
theorem dX2_hasRoom_5 : decode cX2_hasRoom 5 = .ok (.iaload, 1) := by decide +kernel
theorem dX2_hasRoom_6 : decode cX2_hasRoom 6 = .ok (.iload_n 3, 1) := by decide +kernel
theorem dX2_hasRoom_7 : decode cX2_hasRoom 7 = .ok (.isub, 1) := by decide +kernel
theorem dX2_hasRoom_8 : decode cX2_hasRoom 8 = .ok (.istore 4, 2) := by decide +kernel
theorem dX2_hasRoom_10 : decode cX2_hasRoom 10 = .ok (.aload_n 0, 1) := by decide +kernel
theorem dX2_hasRoom_11 : decode cX2_hasRoom 11 = .ok (.getfield 24, 3) := by decide +kernel
theorem dX2_hasRoom_14 : decode cX2_hasRoom 14 = .ok (.iload_n 1, 1) := by decide +kernel
theorem dX2_hasRoom_15 : decode cX2_hasRoom 15 = .ok (.iaload, 1) := by decide +kernel
theorem dX2_hasRoom_16 : decode cX2_hasRoom 16 = .ok (.tableswitch 80 3 5 #[28, 47, 58], 28) := by decide +kernel
theorem dX2_hasRoom_44 : decode cX2_hasRoom 44 = .ok (.iload 4, 2) := by decide +kernel
theorem dX2_hasRoom_46 : decode cX2_hasRoom 46 = .ok (.aload_n 0, 1) := by decide +kernel
theorem dX2_hasRoom_47 : decode cX2_hasRoom 47 = .ok (.getfield 27, 3) := by decide +kernel
theorem dX2_hasRoom_50 : decode cX2_hasRoom 50 = .ok (.iload_n 1, 1) := by decide +kernel
theorem dX2_hasRoom_51 : decode cX2_hasRoom 51 = .ok (.iaload, 1) := by decide +kernel
theorem dX2_hasRoom_52 : decode cX2_hasRoom 52 = .ok (.iconst 2, 1) := by decide +kernel
theorem dX2_hasRoom_53 : decode cX2_hasRoom 53 = .ok (.idiv, 1) := by decide +kernel
theorem dX2_hasRoom_54 : decode cX2_hasRoom 54 = .ok (.if_icmp .lt 7, 3) := by decide +kernel
theorem dX2_hasRoom_57 : decode cX2_hasRoom 57 = .ok (.iconst 1, 1) := by decide +kernel
theorem dX2_hasRoom_58 : decode cX2_hasRoom 58 = .ok (.goto 4, 3) := by decide +kernel
theorem dX2_hasRoom_61 : decode cX2_hasRoom 61 = .ok (.iconst 0, 1) := by decide +kernel
theorem dX2_hasRoom_62 : decode cX2_hasRoom 62 = .ok (.ireturn, 1) := by decide +kernel
theorem dX2_hasRoom_63 : decode cX2_hasRoom 63 = .ok (.iload 4, 2) := by decide +kernel
theorem dX2_hasRoom_65 : decode cX2_hasRoom 65 = .ok (.ifCond .lt 7, 3) := by decide +kernel
theorem dX2_hasRoom_68 : decode cX2_hasRoom 68 = .ok (.iconst 1, 1) := by decide +kernel
theorem dX2_hasRoom_69 : decode cX2_hasRoom 69 = .ok (.goto 4, 3) := by decide +kernel
theorem dX2_hasRoom_72 : decode cX2_hasRoom 72 = .ok (.iconst 0, 1) := by decide +kernel
theorem dX2_hasRoom_73 : decode cX2_hasRoom 73 = .ok (.ireturn, 1) := by decide +kernel
theorem dX2_hasRoom_74 : decode cX2_hasRoom 74 = .ok (.iload 4, 2) := by decide +kernel
theorem dX2_hasRoom_76 : decode cX2_hasRoom 76 = .ok (.ifCond .lt 18, 3) := by decide +kernel
theorem dX2_hasRoom_79 : decode cX2_hasRoom 79 = .ok (.aload_n 0, 1) := by decide +kernel
theorem dX2_hasRoom_80 : decode cX2_hasRoom 80 = .ok (.getfield 18, 3) := by decide +kernel
theorem dX2_hasRoom_83 : decode cX2_hasRoom 83 = .ok (.iload_n 2, 1) := by decide +kernel
theorem dX2_hasRoom_84 : decode cX2_hasRoom 84 = .ok (.iaload, 1) := by decide +kernel
theorem dX2_hasRoom_85 : decode cX2_hasRoom 85 = .ok (.bipush 10, 2) := by decide +kernel
theorem dX2_hasRoom_87 : decode cX2_hasRoom 87 = .ok (.if_icmp .lt 7, 3) := by decide +kernel
theorem dX2_hasRoom_90 : decode cX2_hasRoom 90 = .ok (.iconst 1, 1) := by decide +kernel
theorem dX2_hasRoom_91 : decode cX2_hasRoom 91 = .ok (.goto 4, 3) := by decide +kernel
theorem dX2_hasRoom_94 : decode cX2_hasRoom 94 = .ok (.iconst 0, 1) := by decide +kernel
theorem dX2_hasRoom_95 : decode cX2_hasRoom 95 = .ok (.ireturn, 1) := by decide +kernel
theorem dX2_hasRoom_96 : decode cX2_hasRoom 96 = .ok (.iload 4, 2) := by decide +kernel
theorem dX2_hasRoom_98 : decode cX2_hasRoom 98 = .ok (.aload_n 0, 1) := by decide +kernel
theorem dX2_hasRoom_99 : decode cX2_hasRoom 99 = .ok (.getfield 27, 3) := by decide +kernel
theorem dX2_hasRoom_102 : decode cX2_hasRoom 102 = .ok (.iload_n 1, 1) := by decide +kernel
theorem dX2_hasRoom_103 : decode cX2_hasRoom 103 = .ok (.iaload, 1) := by decide +kernel
theorem dX2_hasRoom_104 : decode cX2_hasRoom 104 = .ok (.if_icmp .lt 7, 3) := by decide +kernel
theorem dX2_hasRoom_107 : decode cX2_hasRoom 107 = .ok (.iconst 1, 1) := by decide +kernel
theorem dX2_hasRoom_108 : decode cX2_hasRoom 108 = .ok (.goto 4, 3) := by decide +kernel
theorem dX2_hasRoom_111 : decode cX2_hasRoom 111 = .ok (.iconst 0, 1) := by decide +kernel
theorem dX2_hasRoom_112 : decode cX2_hasRoom 112 = .ok (.ireturn, 1) := by decide +kernel
theorem yv_X2_hasRoom : YV yX2_hasRoom cX2_hasRoom 5 (some .boolean) 3 := ⟨m605, m606, m5, m607, ⟨by decide +kernel, by decide +kernel, by decide +kernel⟩, by decide⟩
noncomputable def f_X2_hasRoom (q : Nat) (x1 : Int32) (x2 : Int32) (x3 : Int32) (h : AH) : Option (Int32 × AH) := ck x2 6 (lt (((h (q + 3) (x2 : Int32).toNatClampNeg) - x3)) (fun v_2 => ck x1 6 (lt (h (q + 5) (x1 : Int32).toNatClampNeg) (fun v_4 => if v_4 = 3 then (ck x1 6 (if v_2 < ((h (q + 6) (x1 : Int32).toNatClampNeg) / 2) then (some (0, h)) else (some (1, h)))) else (if v_4 = 4 then (if v_2 < 0 then (some (0, h)) else (some (1, h))) else (if v_4 = 5 then (if v_2 < 0 then (some (0, h)) else (ck x2 6 (if (h (q + 3) (x2 : Int32).toNatClampNeg) < 10 then (some (0, h)) else (some (1, h))))) else (ck x1 6 (if v_2 < (h (q + 6) (x1 : Int32).toNatClampNeg) then (some (0, h)) else (some (1, h))))))))))
set_option maxRecDepth 20000 in
set_option maxHeartbeats 4000000 in
theorem ct_X2_hasRoom (l : Launch) (g : GC) {q : Nat} (hq : (gL g)[q]? = some (.inl 2)) (x1 : Int32) (x2 : Int32) (x3 : Int32) : Ct l yX2_hasRoom cX2_hasRoom 5 (some .boolean) 1 [.ref (gad g q), .int x1, .int x2, .int x3] g mkI (fun h => f_X2_hasRoom q x1 x2 x3 h) := by
  refine Ct.of (by decide +kernel) (Nat.le_of_ble_eq_true rfl) (fun z A h _ F => ?_)
  show Snd z 5 g A (QF z g A mkI) 0 [(0, .ref (gad g q)), (1, .int x1), (2, .int x2), (3, .int x3)] [] h (f_X2_hasRoom q x1 x2 x3 h)
  unfold f_X2_hasRoom
  refine s_aload_n F dX2_hasRoom_0 rfl 0 rfl ?_
  have hw_1 := wf_ref F.2.2.2.2.2.2.1 hq 9 3 (.inr (0, 6)) rfl
  refine s_getr F ciX2 9 3 (.inr (0, 6)) hq (by decide) rfl rfl m104 dX2_hasRoom_1 ?_
  refine s_iload_n F dX2_hasRoom_4 rfl 2 rfl ?_
  refine s_iald F hw_1 dX2_hasRoom_5 ?_
  refine s_iload_n F dX2_hasRoom_6 rfl 3 rfl ?_
  refine s_isub F dX2_hasRoom_7 ?_
  refine s_leti (fun v_2 => ?_)
  refine s_istore F (lv' := [(4, .int v_2), (0, .ref (gad g q)), (1, .int x1), (2, .int x2), (3, .int x3)]) dX2_hasRoom_8 (by decide) rfl ?_
  refine s_aload_n F dX2_hasRoom_10 rfl 1 rfl ?_
  have hw_3 := wf_ref F.2.2.2.2.2.2.1 hq 11 5 (.inr (0, 6)) rfl
  refine s_getr F ciX2 11 5 (.inr (0, 6)) hq (by decide) rfl rfl m110 dX2_hasRoom_11 ?_
  refine s_iload_n F dX2_hasRoom_14 rfl 2 rfl ?_
  refine s_iald F hw_3 dX2_hasRoom_15 ?_
  refine s_leti (fun v_4 => ?_)
  refine s_case 3 ?_ (fun n3 => ?_)
  · refine s_tabIn F (off := 28) 44 dX2_hasRoom_16 (by decide) (by decide) rfl (by decide) ?_
    refine s_iload F dX2_hasRoom_44 0 rfl ?_
    refine s_aload_n F dX2_hasRoom_46 rfl 1 rfl ?_
    have hw_5 := wf_ref F.2.2.2.2.2.2.1 hq 12 6 (.inr (0, 6)) rfl
    refine s_getr F ciX2 12 6 (.inr (0, 6)) hq (by decide) rfl rfl m114 dX2_hasRoom_47 ?_
    refine s_iload_n F dX2_hasRoom_50 rfl 2 rfl ?_
    refine s_iald F hw_5 dX2_hasRoom_51 ?_
    refine s_iconst F (v := 2) dX2_hasRoom_52 (by decide) ?_
    refine s_idivN F dX2_hasRoom_53 (by decide) ?_
    refine s_icmp_lt F 61 dX2_hasRoom_54 (by decide) (fun _ => ?_) (fun _ => ?_)
    · refine s_iconst F (v := 0) dX2_hasRoom_61 (by decide) ?_
      exact s_zret1 F (by decide) dX2_hasRoom_62
    · refine s_iconst F (v := 1) dX2_hasRoom_57 (by decide) ?_
      refine s_goto F 62 dX2_hasRoom_58 (by decide) ?_
      exact s_zret1 F (by decide) dX2_hasRoom_62
  refine s_case 4 ?_ (fun n4 => ?_)
  · refine s_tabIn F (off := 47) 63 dX2_hasRoom_16 (by decide) (by decide) rfl (by decide) ?_
    refine s_iload F dX2_hasRoom_63 0 rfl ?_
    refine s_if_lt F 72 dX2_hasRoom_65 (by decide) (fun _ => ?_) (fun _ => ?_)
    · refine s_iconst F (v := 0) dX2_hasRoom_72 (by decide) ?_
      exact s_zret1 F (by decide) dX2_hasRoom_73
    · refine s_iconst F (v := 1) dX2_hasRoom_68 (by decide) ?_
      refine s_goto F 73 dX2_hasRoom_69 (by decide) ?_
      exact s_zret1 F (by decide) dX2_hasRoom_73
  refine s_case 5 ?_ (fun n5 => ?_)
  · refine s_tabIn F (off := 58) 74 dX2_hasRoom_16 (by decide) (by decide) rfl (by decide) ?_
    refine s_iload F dX2_hasRoom_74 0 rfl ?_
    refine s_if_lt F 94 dX2_hasRoom_76 (by decide) (fun _ => ?_) (fun _ => ?_)
    · refine s_iconst F (v := 0) dX2_hasRoom_94 (by decide) ?_
      exact s_zret1 F (by decide) dX2_hasRoom_95
    · refine s_aload_n F dX2_hasRoom_79 rfl 1 rfl ?_
      have hw_6 := wf_ref F.2.2.2.2.2.2.1 hq 9 3 (.inr (0, 6)) rfl
      refine s_getr F ciX2 9 3 (.inr (0, 6)) hq (by decide) rfl rfl m104 dX2_hasRoom_80 ?_
      refine s_iload_n F dX2_hasRoom_83 rfl 3 rfl ?_
      refine s_iald F hw_6 dX2_hasRoom_84 ?_
      refine s_bipush F (v := 10) dX2_hasRoom_85 (by decide) ?_
      refine s_icmp_lt F 94 dX2_hasRoom_87 (by decide) (fun _ => ?_) (fun _ => ?_)
      · refine s_iconst F (v := 0) dX2_hasRoom_94 (by decide) ?_
        exact s_zret1 F (by decide) dX2_hasRoom_95
      · refine s_iconst F (v := 1) dX2_hasRoom_90 (by decide) ?_
        refine s_goto F 95 dX2_hasRoom_91 (by decide) ?_
        exact s_zret1 F (by decide) dX2_hasRoom_95
  refine s_tabOut F 96 dX2_hasRoom_16 (by decide) (s_out 3 5 3 (by decide) (by decide) (by decide) (fun j hj => ?_)) ?_
  · rcases (show j = 0 ∨ j = 1 ∨ j = 2 by omega) with rfl | rfl | rfl
    · exact n3
    · exact n4
    · exact n5
  refine s_iload F dX2_hasRoom_96 0 rfl ?_
  refine s_aload_n F dX2_hasRoom_98 rfl 1 rfl ?_
  have hw_7 := wf_ref F.2.2.2.2.2.2.1 hq 12 6 (.inr (0, 6)) rfl
  refine s_getr F ciX2 12 6 (.inr (0, 6)) hq (by decide) rfl rfl m114 dX2_hasRoom_99 ?_
  refine s_iload_n F dX2_hasRoom_102 rfl 2 rfl ?_
  refine s_iald F hw_7 dX2_hasRoom_103 ?_
  refine s_icmp_lt F 111 dX2_hasRoom_104 (by decide) (fun _ => ?_) (fun _ => ?_)
  · refine s_iconst F (v := 0) dX2_hasRoom_111 (by decide) ?_
    exact s_zret1 F (by decide) dX2_hasRoom_112
  · refine s_iconst F (v := 1) dX2_hasRoom_107 (by decide) ?_
    refine s_goto F 112 dX2_hasRoom_108 (by decide) ?_
    exact s_zret1 F (by decide) dX2_hasRoom_112
theorem dX2_letsBy_0 : decode cX2_letsBy 0 = .ok (.aload_n 0, 1) := by decide +kernel
theorem dX2_letsBy_1 : decode cX2_letsBy 1 = .ok (.iload_n 2, 1) := by decide +kernel
theorem dX2_letsBy_2 : decode cX2_letsBy 2 = .ok (.invokevirtual 112, 3) := by decide +kernel
theorem dX2_letsBy_5 : decode cX2_letsBy 5 = .ok (.ifCond .ne 44, 3) := by decide +kernel
theorem dX2_letsBy_8 : decode cX2_letsBy 8 = .ok (.aload_n 0, 1) := by decide +kernel
theorem dX2_letsBy_9 : decode cX2_letsBy 9 = .ok (.iload_n 1, 1) := by decide +kernel
theorem dX2_letsBy_10 : decode cX2_letsBy 10 = .ok (.invokevirtual 115, 3) := by decide +kernel
theorem dX2_letsBy_13 : decode cX2_letsBy 13 = .ok (.aload_n 0, 1) := by decide +kernel
theorem dX2_letsBy_14 : decode cX2_letsBy 14 = .ok (.aload_n 0, 1) := by decide +kernel
theorem dX2_letsBy_15 : decode cX2_letsBy 15 = .ok (.iload_n 1, 1) := by decide +kernel
theorem dX2_letsBy_16 : decode cX2_letsBy 16 = .ok (.invokevirtual 118, 3) := by decide +kernel
theorem dX2_letsBy_19 : decode cX2_letsBy 19 = .ok (.iload_n 2, 1) := by decide +kernel
theorem dX2_letsBy_20 : decode cX2_letsBy 20 = .ok (.invokevirtual 121, 3) := by decide +kernel
theorem dX2_letsBy_23 : decode cX2_letsBy 23 = .ok (.invokestatic 71, 3) := by decide +kernel
theorem dX2_letsBy_26 : decode cX2_letsBy 26 = .ok (.iconst 1, 1) := by decide +kernel
theorem dX2_letsBy_27 : decode cX2_letsBy 27 = .ok (.if_icmp .ne 22, 3) := by decide +kernel
theorem dX2_letsBy_30 : decode cX2_letsBy 30 = .ok (.aload_n 0, 1) := by decide +kernel
theorem dX2_letsBy_31 : decode cX2_letsBy 31 = .ok (.iload_n 1, 1) := by decide +kernel
theorem dX2_letsBy_32 : decode cX2_letsBy 32 = .ok (.iload_n 2, 1) := by decide +kernel
theorem dX2_letsBy_33 : decode cX2_letsBy 33 = .ok (.aload_n 0, 1) := by decide +kernel
theorem dX2_letsBy_34 : decode cX2_letsBy 34 = .ok (.getfield 9, 3) := by decide +kernel
theorem dX2_letsBy_37 : decode cX2_letsBy 37 = .ok (.iload_n 3, 1) := by decide +kernel
theorem dX2_letsBy_38 : decode cX2_letsBy 38 = .ok (.iaload, 1) := by decide +kernel
theorem dX2_letsBy_39 : decode cX2_letsBy 39 = .ok (.invokevirtual 124, 3) := by decide +kernel
theorem dX2_letsBy_42 : decode cX2_letsBy 42 = .ok (.ifCond .eq 7, 3) := by decide +kernel
theorem dX2_letsBy_45 : decode cX2_letsBy 45 = .ok (.iconst 1, 1) := by decide +kernel
theorem dX2_letsBy_46 : decode cX2_letsBy 46 = .ok (.goto 4, 3) := by decide +kernel
theorem dX2_letsBy_49 : decode cX2_letsBy 49 = .ok (.iconst 0, 1) := by decide +kernel
theorem dX2_letsBy_50 : decode cX2_letsBy 50 = .ok (.ireturn, 1) := by decide +kernel
theorem yv_X2_letsBy : YV yX2_letsBy cX2_letsBy 4 (some .boolean) 3 := ⟨m572, m573, m5, m574, ⟨by decide +kernel, by decide +kernel, by decide +kernel⟩, by decide⟩
noncomputable def f_X2_letsBy (q : Nat) (x1 : Int32) (x2 : Int32) (x3 : Int32) (h : AH) : Option (Int32 × AH) := bd (f_X2_isShut q x2 h) (fun v_2 h_1 => if v_2 = 0 then (bd (f_X2_chartersFor q x1 h_1) (fun v_4 h_3 => bd (f_X2_sideOf q x1 h_3) (fun v_6 h_5 => bd (f_X2_charterOf q v_6 x2 h_5) (fun v_8 h_7 => bd (f_X7_bitOf v_4 v_8 h_7) (fun v_10 h_9 => if v_10 = 1 then (ck x3 12 (bd (f_X2_hasRoom q x1 x2 (h_9 (q + 1) (x3 : Int32).toNatClampNeg) h_9) (fun v_13 h_12 => if v_13 = 0 then (some (0, h_12)) else (some (1, h_12))))) else (some (0, h_9))))))) else (some (0, h_1)))
set_option maxRecDepth 20000 in
set_option maxHeartbeats 4000000 in
theorem ct_X2_letsBy (l : Launch) (g : GC) {q : Nat} (hq : (gL g)[q]? = some (.inl 2)) (x1 : Int32) (x2 : Int32) (x3 : Int32) : Ct l yX2_letsBy cX2_letsBy 4 (some .boolean) 5 [.ref (gad g q), .int x1, .int x2, .int x3] g mkI (fun h => f_X2_letsBy q x1 x2 x3 h) := by
  refine Ct.of (by decide +kernel) (Nat.le_of_ble_eq_true rfl) (fun z A h _ F => ?_)
  show Snd z 4 g A (QF z g A mkI) 0 [(0, .ref (gad g q)), (1, .int x1), (2, .int x2), (3, .int x3)] [] h (f_X2_letsBy q x1 x2 x3 h)
  unfold f_X2_letsBy
  refine s_aload_n F dX2_letsBy_0 rfl 0 rfl ?_
  refine s_iload_n F dX2_letsBy_1 rfl 2 rfl ?_
  refine s_callVi (f := fun hh => f_X2_isShut q x2 hh) (As := [.int x2]) F yv_X2_isShut (ct_X2_isShut z.2.1 g hq x2) (by decide) m575 hq rfl rfl rfl (Nat.le_of_ble_eq_true rfl) dX2_letsBy_2 (fun v_2 h_1 e_v_2 => ?_)
  refine s_if_ne F 49 dX2_letsBy_5 (by decide) (fun _ => ?_) (fun _ => ?_)
  · refine s_iconst F (v := 0) dX2_letsBy_49 (by decide) ?_
    exact s_zret1 F (by decide) dX2_letsBy_50
  · refine s_aload_n F dX2_letsBy_8 rfl 0 rfl ?_
    refine s_iload_n F dX2_letsBy_9 rfl 1 rfl ?_
    refine s_callVi (f := fun hh => f_X2_chartersFor q x1 hh) (As := [.int x1]) F yv_X2_chartersFor (ct_X2_chartersFor z.2.1 g hq x1) (by decide) m579 hq rfl rfl rfl (Nat.le_of_ble_eq_true rfl) dX2_letsBy_10 (fun v_4 h_3 e_v_4 => ?_)
    refine s_aload_n F dX2_letsBy_13 rfl 0 rfl ?_
    refine s_aload_n F dX2_letsBy_14 rfl 0 rfl ?_
    refine s_iload_n F dX2_letsBy_15 rfl 1 rfl ?_
    refine s_callVi (f := fun hh => f_X2_sideOf q x1 hh) (As := [.int x1]) F yv_X2_sideOf (ct_X2_sideOf z.2.1 g hq x1) (by decide) m599 hq rfl rfl rfl (Nat.le_of_ble_eq_true rfl) dX2_letsBy_16 (fun v_6 h_5 e_v_6 => ?_)
    refine s_iload_n F dX2_letsBy_19 rfl 2 rfl ?_
    refine s_callVi (f := fun hh => f_X2_charterOf q v_6 x2 hh) (As := [.int v_6, .int x2]) F yv_X2_charterOf (ct_X2_charterOf z.2.1 g hq v_6 x2) (by decide) m603 hq rfl rfl rfl (Nat.le_of_ble_eq_true rfl) dX2_letsBy_20 (fun v_8 h_7 e_v_8 => ?_)
    refine s_callSNi (f := fun hh => f_X7_bitOf v_4 v_8 hh) (As := [.int v_4, .int v_8]) F ys_X7_bitOf (ct_X7_bitOf z.2.1 g v_4 v_8) (by decide) (List.mem_of_getElem? (i := 1) rfl) rfl rfl (Nat.le_of_ble_eq_true rfl) dX2_letsBy_23 (fun v_10 h_9 e_v_10 => ?_)
    refine s_iconst F (v := 1) dX2_letsBy_26 (by decide) ?_
    refine s_icmp_ne F 49 dX2_letsBy_27 (by decide) (fun _ => ?_) (fun _ => ?_)
    · refine s_iconst F (v := 0) dX2_letsBy_49 (by decide) ?_
      exact s_zret1 F (by decide) dX2_letsBy_50
    · refine s_aload_n F dX2_letsBy_30 rfl 0 rfl ?_
      refine s_iload_n F dX2_letsBy_31 rfl 1 rfl ?_
      refine s_iload_n F dX2_letsBy_32 rfl 2 rfl ?_
      refine s_aload_n F dX2_letsBy_33 rfl 0 rfl ?_
      have hw_11 := wf_ref F.2.2.2.2.2.2.1 hq 7 1 (.inr (0, 12)) rfl
      refine s_getr F ciX2 7 1 (.inr (0, 12)) hq (by decide) rfl rfl m99 dX2_letsBy_34 ?_
      refine s_iload_n F dX2_letsBy_37 rfl 3 rfl ?_
      refine s_iald F hw_11 dX2_letsBy_38 ?_
      refine s_callVi (f := fun hh => f_X2_hasRoom q x1 x2 (h_9 (q + 1) (x3 : Int32).toNatClampNeg) hh) (As := [.int x1, .int x2, .int (h_9 (q + 1) (x3 : Int32).toNatClampNeg)]) F yv_X2_hasRoom (ct_X2_hasRoom z.2.1 g hq x1 x2 (h_9 (q + 1) (x3 : Int32).toNatClampNeg)) (by decide) m604 hq rfl rfl rfl (Nat.le_of_ble_eq_true rfl) dX2_letsBy_39 (fun v_13 h_12 e_v_13 => ?_)
      refine s_if_eq F 49 dX2_letsBy_42 (by decide) (fun _ => ?_) (fun _ => ?_)
      · refine s_iconst F (v := 0) dX2_letsBy_49 (by decide) ?_
        exact s_zret1 F (by decide) dX2_letsBy_50
      · refine s_iconst F (v := 1) dX2_letsBy_45 (by decide) ?_
        refine s_goto F 50 dX2_letsBy_46 (by decide) ?_
        exact s_zret1 F (by decide) dX2_letsBy_50
theorem dX2_tradesCutOff_0 : decode cX2_tradesCutOff 0 = .ok (.iconst 0, 1) := by decide +kernel
theorem dX2_tradesCutOff_1 : decode cX2_tradesCutOff 1 = .ok (.istore_n 3, 1) := by decide +kernel
theorem dX2_tradesCutOff_2 : decode cX2_tradesCutOff 2 = .ok (.iconst 0, 1) := by decide +kernel
theorem dX2_tradesCutOff_3 : decode cX2_tradesCutOff 3 = .ok (.istore 4, 2) := by decide +kernel
theorem dX2_tradesCutOff_5 : decode cX2_tradesCutOff 5 = .ok (.iload 4, 2) := by decide +kernel
theorem dX2_tradesCutOff_7 : decode cX2_tradesCutOff 7 = .ok (.aload_n 0, 1) := by decide +kernel
theorem dX2_tradesCutOff_8 : decode cX2_tradesCutOff 8 = .ok (.getfield 40, 3) := by decide +kernel
theorem dX2_tradesCutOff_11 : decode cX2_tradesCutOff 11 = .ok (.if_icmp .ge 43, 3) := by decide +kernel
theorem dX2_tradesCutOff_14 : decode cX2_tradesCutOff 14 = .ok (.aload_n 0, 1) := by decide +kernel
theorem dX2_tradesCutOff_15 : decode cX2_tradesCutOff 15 = .ok (.iload 4, 2) := by decide +kernel
theorem dX2_tradesCutOff_17 : decode cX2_tradesCutOff 17 = .ok (.invokevirtual 112, 3) := by decide +kernel
theorem dX2_tradesCutOff_20 : decode cX2_tradesCutOff 20 = .ok (.ifCond .ne 28, 3) := by decide +kernel
theorem dX2_tradesCutOff_23 : decode cX2_tradesCutOff 23 = .ok (.aload_n 0, 1) := by decide +kernel
theorem dX2_tradesCutOff_24 : decode cX2_tradesCutOff 24 = .ok (.getfield 18, 3) := by decide +kernel
theorem dX2_tradesCutOff_27 : decode cX2_tradesCutOff 27 = .ok (.iload 4, 2) := by decide +kernel
theorem dX2_tradesCutOff_29 : decode cX2_tradesCutOff 29 = .ok (.iaload, 1) := by decide +kernel
theorem dX2_tradesCutOff_30 : decode cX2_tradesCutOff 30 = .ok (.iload_n 1, 1) := by decide +kernel
theorem dX2_tradesCutOff_31 : decode cX2_tradesCutOff 31 = .ok (.isub, 1) := by decide +kernel
theorem dX2_tradesCutOff_32 : decode cX2_tradesCutOff 32 = .ok (.iload_n 2, 1) := by decide +kernel
theorem dX2_tradesCutOff_33 : decode cX2_tradesCutOff 33 = .ok (.if_icmp .lt 15, 3) := by decide +kernel
theorem dX2_tradesCutOff_36 : decode cX2_tradesCutOff 36 = .ok (.iload_n 3, 1) := by decide +kernel
theorem dX2_tradesCutOff_37 : decode cX2_tradesCutOff 37 = .ok (.iconst 1, 1) := by decide +kernel
theorem dX2_tradesCutOff_38 : decode cX2_tradesCutOff 38 = .ok (.aload_n 0, 1) := by decide +kernel
theorem dX2_tradesCutOff_39 : decode cX2_tradesCutOff 39 = .ok (.iconst 0, 1) := by decide +kernel
theorem dX2_tradesCutOff_40 : decode cX2_tradesCutOff 40 = .ok (.iload 4, 2) := by decide +kernel
theorem dX2_tradesCutOff_42 : decode cX2_tradesCutOff 42 = .ok (.invokevirtual 121, 3) := by decide +kernel
theorem dX2_tradesCutOff_45 : decode cX2_tradesCutOff 45 = .ok (.ishl, 1) := by decide +kernel
theorem dX2_tradesCutOff_46 : decode cX2_tradesCutOff 46 = .ok (.ior, 1) := by decide +kernel
theorem dX2_tradesCutOff_47 : decode cX2_tradesCutOff 47 = .ok (.istore_n 3, 1) := by decide +kernel
theorem dX2_tradesCutOff_48 : decode cX2_tradesCutOff 48 = .ok (.iinc 4 1, 3) := by decide +kernel
theorem dX2_tradesCutOff_51 : decode cX2_tradesCutOff 51 = .ok (.goto (-46), 3) := by decide +kernel
theorem dX2_tradesCutOff_54 : decode cX2_tradesCutOff 54 = .ok (.bipush 15, 2) := by decide +kernel
theorem dX2_tradesCutOff_56 : decode cX2_tradesCutOff 56 = .ok (.istore 4, 2) := by decide +kernel
theorem dX2_tradesCutOff_58 : decode cX2_tradesCutOff 58 = .ok (.iload_n 3, 1) := by decide +kernel
theorem dX2_tradesCutOff_59 : decode cX2_tradesCutOff 59 = .ok (.iconst 4, 1) := by decide +kernel
theorem dX2_tradesCutOff_60 : decode cX2_tradesCutOff 60 = .ok (.invokestatic 71, 3) := by decide +kernel
theorem dX2_tradesCutOff_63 : decode cX2_tradesCutOff 63 = .ok (.iconst 1, 1) := by decide +kernel
theorem dX2_tradesCutOff_64 : decode cX2_tradesCutOff 64 = .ok (.if_icmp .ne 7, 3) := by decide +kernel
theorem dX2_tradesCutOff_67 : decode cX2_tradesCutOff 67 = .ok (.iconst 0, 1) := by decide +kernel
theorem dX2_tradesCutOff_68 : decode cX2_tradesCutOff 68 = .ok (.goto 9, 3) := by decide +kernel
theorem dX2_tradesCutOff_71 : decode cX2_tradesCutOff 71 = .ok (.iload 4, 2) := by decide +kernel
theorem dX2_tradesCutOff_73 : decode cX2_tradesCutOff 73 = .ok (.iload_n 3, 1) := by decide +kernel
theorem dX2_tradesCutOff_74 : decode cX2_tradesCutOff 74 = .ok (.iconst (-1), 1) := by decide +kernel
theorem dX2_tradesCutOff_75 : decode cX2_tradesCutOff 75 = .ok (.ixor, 1) := by decide +kernel
theorem dX2_tradesCutOff_76 : decode cX2_tradesCutOff 76 = .ok (.iand, 1) := by decide +kernel
theorem dX2_tradesCutOff_77 : decode cX2_tradesCutOff 77 = .ok (.ireturn, 1) := by decide +kernel
theorem yv_X2_tradesCutOff : YV yX2_tradesCutOff cX2_tradesCutOff 5 (some .int) 2 := ⟨m785, m786, m5, m787, ⟨by decide +kernel, by decide +kernel, by decide +kernel⟩, by decide⟩
noncomputable def f_X2_tradesCutOff_5 (q : Nat) : Nat → Int32 → Int32 → Int32 → Int32 → AH → Option (Int32 × AH)
  | 0, _, _, _, _, _ => none
  | n + 1, x1, x2, x3, x4, h => if (h q 1) ≤ x4 then (bd (f_X7_bitOf x3 4 h) (fun v_2 h_1 => if v_2 = 1 then (some (0, h_1)) else (some ((15 &&& (x3 ^^^ (-1))), h_1)))) else (bd (f_X2_isShut q x4 h) (fun v_4 h_3 => if v_4 = 0 then (ck x4 6 (if ((h_3 (q + 3) (x4 : Int32).toNatClampNeg) - x1) < x2 then (lt (x4 + 1) (fun v_7 => (f_X2_tradesCutOff_5 q n) x1 x2 x3 v_7 h_3)) else (bd (f_X2_charterOf q 0 x4 h_3) (fun v_9 h_8 => lt ((x3 ||| (1 <<< (v_9 &&& 31)))) (fun v_10 => lt (x4 + 1) (fun v_11 => (f_X2_tradesCutOff_5 q n) x1 x2 v_10 v_11 h_8)))))) else (lt (x4 + 1) (fun v_5 => (f_X2_tradesCutOff_5 q n) x1 x2 x3 v_5 h_3))))
set_option maxRecDepth 20000 in
set_option maxHeartbeats 4000000 in
theorem t_X2_tradesCutOff_5 {z : MC} {g : GC} {A : Nat → Prop} (F : Fx z cX2_tradesCutOff 5 RX2 (some .int) 3 g A) {q : Nat} (hq : (gL g)[q]? = some (.inl 2)) : ∀ (n : Nat) (x1 : Int32) (x2 : Int32) (x3 : Int32) (x4 : Int32) (h : AH), Snd z 5 g A (QF z g A mkI) 5 [(0, .ref (gad g q)), (1, .int x1), (2, .int x2), (3, .int x3), (4, .int x4)] [] h (f_X2_tradesCutOff_5 q n x1 x2 x3 x4 h) := by
  intro n
  induction n with
  | zero => intros; exact s_none
  | succ n ih =>
    intro x1 x2 x3 x4 h
    unfold f_X2_tradesCutOff_5
    refine s_iload F dX2_tradesCutOff_5 4 rfl ?_
    refine s_aload_n F dX2_tradesCutOff_7 rfl 0 rfl ?_
    refine s_geti F ciX2 1 hq (by decide) rfl rfl m81 dX2_tradesCutOff_8 ?_
    refine s_icmp_ge F 54 dX2_tradesCutOff_11 (by decide) (fun _ => ?_) (fun _ => ?_)
    · refine s_bipush F (v := 15) dX2_tradesCutOff_54 (by decide) ?_
      refine s_istore F (lv' := [(4, .int 15), (0, .ref (gad g q)), (1, .int x1), (2, .int x2), (3, .int x3)]) dX2_tradesCutOff_56 (by decide) rfl ?_
      refine s_iload_n F dX2_tradesCutOff_58 rfl 4 rfl ?_
      refine s_iconst F (v := 4) dX2_tradesCutOff_59 (by decide) ?_
      refine s_callSNi (f := fun hh => f_X7_bitOf x3 4 hh) (As := [.int x3, .int 4]) F ys_X7_bitOf (ct_X7_bitOf z.2.1 g x3 4) (by decide) (List.mem_of_getElem? (i := 1) rfl) rfl rfl (Nat.le_of_ble_eq_true rfl) dX2_tradesCutOff_60 (fun v_2 h_1 e_v_2 => ?_)
      refine s_iconst F (v := 1) dX2_tradesCutOff_63 (by decide) ?_
      refine s_icmp_ne F 71 dX2_tradesCutOff_64 (by decide) (fun _ => ?_) (fun _ => ?_)
      · refine s_iload F dX2_tradesCutOff_71 0 rfl ?_
        refine s_iload_n F dX2_tradesCutOff_73 rfl 4 rfl ?_
        refine s_iconst F (v := (-1)) dX2_tradesCutOff_74 (by decide) ?_
        refine s_ixor F dX2_tradesCutOff_75 ?_
        refine s_iand F dX2_tradesCutOff_76 ?_
        exact s_iret F dX2_tradesCutOff_77
      · refine s_iconst F (v := 0) dX2_tradesCutOff_67 (by decide) ?_
        refine s_goto F 77 dX2_tradesCutOff_68 (by decide) ?_
        exact s_iret F dX2_tradesCutOff_77
    · refine s_aload_n F dX2_tradesCutOff_14 rfl 0 rfl ?_
      refine s_iload F dX2_tradesCutOff_15 4 rfl ?_
      refine s_callVi (f := fun hh => f_X2_isShut q x4 hh) (As := [.int x4]) F yv_X2_isShut (ct_X2_isShut z.2.1 g hq x4) (by decide) m575 hq rfl rfl rfl (Nat.le_of_ble_eq_true rfl) dX2_tradesCutOff_17 (fun v_4 h_3 e_v_4 => ?_)
      refine s_if_ne F 48 dX2_tradesCutOff_20 (by decide) (fun _ => ?_) (fun _ => ?_)
      · refine s_iincv F dX2_tradesCutOff_48 4 rfl (by decide) (c := 1) (by decide) (fun v_5 => ?_)
        refine s_lv (lv' := [(4, .int v_5), (0, .ref (gad g q)), (1, .int x1), (2, .int x2), (3, .int x3)]) rfl ?_
        refine s_goto F 5 dX2_tradesCutOff_51 (by decide) ?_
        exact s_sub [1, 2, 3, 4, 0] rfl (ih x1 x2 x3 v_5 h_3)
      · refine s_aload_n F dX2_tradesCutOff_23 rfl 0 rfl ?_
        have hw_6 := wf_ref F.2.2.2.2.2.2.1 hq 9 3 (.inr (0, 6)) rfl
        refine s_getr F ciX2 9 3 (.inr (0, 6)) hq (by decide) rfl rfl m104 dX2_tradesCutOff_24 ?_
        refine s_iload F dX2_tradesCutOff_27 4 rfl ?_
        refine s_iald F hw_6 dX2_tradesCutOff_29 ?_
        refine s_iload_n F dX2_tradesCutOff_30 rfl 1 rfl ?_
        refine s_isub F dX2_tradesCutOff_31 ?_
        refine s_iload_n F dX2_tradesCutOff_32 rfl 2 rfl ?_
        refine s_icmp_lt F 48 dX2_tradesCutOff_33 (by decide) (fun _ => ?_) (fun _ => ?_)
        · refine s_iincv F dX2_tradesCutOff_48 4 rfl (by decide) (c := 1) (by decide) (fun v_7 => ?_)
          refine s_lv (lv' := [(4, .int v_7), (0, .ref (gad g q)), (1, .int x1), (2, .int x2), (3, .int x3)]) rfl ?_
          refine s_goto F 5 dX2_tradesCutOff_51 (by decide) ?_
          exact s_sub [1, 2, 3, 4, 0] rfl (ih x1 x2 x3 v_7 h_3)
        · refine s_iload_n F dX2_tradesCutOff_36 rfl 3 rfl ?_
          refine s_iconst F (v := 1) dX2_tradesCutOff_37 (by decide) ?_
          refine s_aload_n F dX2_tradesCutOff_38 rfl 0 rfl ?_
          refine s_iconst F (v := 0) dX2_tradesCutOff_39 (by decide) ?_
          refine s_iload F dX2_tradesCutOff_40 4 rfl ?_
          refine s_callVi (f := fun hh => f_X2_charterOf q 0 x4 hh) (As := [.int 0, .int x4]) F yv_X2_charterOf (ct_X2_charterOf z.2.1 g hq 0 x4) (by decide) m603 hq rfl rfl rfl (Nat.le_of_ble_eq_true rfl) dX2_tradesCutOff_42 (fun v_9 h_8 e_v_9 => ?_)
          refine s_ishl F dX2_tradesCutOff_45 ?_
          refine s_ior F dX2_tradesCutOff_46 ?_
          refine s_leti (fun v_10 => ?_)
          refine s_istore_n F (lv' := [(3, .int v_10), (0, .ref (gad g q)), (1, .int x1), (2, .int x2), (4, .int x4)]) dX2_tradesCutOff_47 rfl (by decide) rfl ?_
          refine s_iincv F dX2_tradesCutOff_48 4 rfl (by decide) (c := 1) (by decide) (fun v_11 => ?_)
          refine s_lv (lv' := [(4, .int v_11), (3, .int v_10), (0, .ref (gad g q)), (1, .int x1), (2, .int x2)]) rfl ?_
          refine s_goto F 5 dX2_tradesCutOff_51 (by decide) ?_
          exact s_sub [2, 3, 4, 1, 0] rfl (ih x1 x2 v_10 v_11 h_8)
noncomputable def f_X2_tradesCutOff (q : Nat) (x1 : Int32) (x2 : Int32) (h : AH) : Option (Int32 × AH) := f_X2_tradesCutOff_5 q fu x1 x2 0 0 h
set_option maxRecDepth 20000 in
set_option maxHeartbeats 4000000 in
theorem ct_X2_tradesCutOff (l : Launch) (g : GC) {q : Nat} (hq : (gL g)[q]? = some (.inl 2)) (x1 : Int32) (x2 : Int32) : Ct l yX2_tradesCutOff cX2_tradesCutOff 5 (some .int) 3 [.ref (gad g q), .int x1, .int x2] g mkI (fun h => f_X2_tradesCutOff q x1 x2 h) := by
  refine Ct.of (by decide +kernel) (Nat.le_of_ble_eq_true rfl) (fun z A h _ F => ?_)
  show Snd z 5 g A (QF z g A mkI) 0 [(0, .ref (gad g q)), (1, .int x1), (2, .int x2)] [] h (f_X2_tradesCutOff q x1 x2 h)
  unfold f_X2_tradesCutOff
  refine s_iconst F (v := 0) dX2_tradesCutOff_0 (by decide) ?_
  refine s_istore_n F (lv' := [(3, .int 0), (0, .ref (gad g q)), (1, .int x1), (2, .int x2)]) dX2_tradesCutOff_1 rfl (by decide) rfl ?_
  refine s_iconst F (v := 0) dX2_tradesCutOff_2 (by decide) ?_
  refine s_istore F (lv' := [(4, .int 0), (3, .int 0), (0, .ref (gad g q)), (1, .int x1), (2, .int x2)]) dX2_tradesCutOff_3 (by decide) rfl ?_
  exact s_sub [2, 3, 4, 1, 0] rfl (t_X2_tradesCutOff_5 F hq fu x1 x2 0 0 h)
theorem dX2_wentIn_0 : decode cX2_wentIn 0 = .ok (.aload_n 0, 1) := by decide +kernel
theorem dX2_wentIn_1 : decode cX2_wentIn 1 = .ok (.getfield 33, 3) := by decide +kernel
theorem dX2_wentIn_4 : decode cX2_wentIn 4 = .ok (.iload_n 1, 1) := by decide +kernel
theorem dX2_wentIn_5 : decode cX2_wentIn 5 = .ok (.bipush 12, 2) := by decide +kernel
theorem dX2_wentIn_7 : decode cX2_wentIn 7 = .ok (.imul, 1) := by decide +kernel
theorem dX2_wentIn_8 : decode cX2_wentIn 8 = .ok (.aload_n 0, 1) := by decide +kernel
theorem dX2_wentIn_9 : decode cX2_wentIn 9 = .ok (.getfield 47, 3) := by decide +kernel
theorem dX2_wentIn_12 : decode cX2_wentIn 12 = .ok (.iadd, 1) := by decide +kernel
theorem dX2_wentIn_13 : decode cX2_wentIn 13 = .ok (.iaload, 1) := by decide +kernel
theorem dX2_wentIn_14 : decode cX2_wentIn 14 = .ok (.iload_n 2, 1) := by decide +kernel
theorem dX2_wentIn_15 : decode cX2_wentIn 15 = .ok (.invokestatic 71, 3) := by decide +kernel
theorem dX2_wentIn_18 : decode cX2_wentIn 18 = .ok (.ireturn, 1) := by decide +kernel
theorem yv_X2_wentIn : YV yX2_wentIn cX2_wentIn 3 (some .int) 2 := ⟨m610, m611, m5, m612, ⟨by decide +kernel, by decide +kernel, by decide +kernel⟩, by decide⟩
noncomputable def f_X2_wentIn (q : Nat) (x1 : Int32) (x2 : Int32) (h : AH) : Option (Int32 × AH) := lt (((x1 * 12) + (h q 3))) (fun v_2 => ck v_2 24 (bd (f_X7_bitOf (h (q + 8) (v_2 : Int32).toNatClampNeg) x2 h) (fun v_4 h_3 => some (v_4, h_3))))
set_option maxRecDepth 20000 in
set_option maxHeartbeats 4000000 in
theorem ct_X2_wentIn (l : Launch) (g : GC) {q : Nat} (hq : (gL g)[q]? = some (.inl 2)) (x1 : Int32) (x2 : Int32) : Ct l yX2_wentIn cX2_wentIn 3 (some .int) 2 [.ref (gad g q), .int x1, .int x2] g mkI (fun h => f_X2_wentIn q x1 x2 h) := by
  refine Ct.of (by decide +kernel) (Nat.le_of_ble_eq_true rfl) (fun z A h _ F => ?_)
  show Snd z 3 g A (QF z g A mkI) 0 [(0, .ref (gad g q)), (1, .int x1), (2, .int x2)] [] h (f_X2_wentIn q x1 x2 h)
  unfold f_X2_wentIn
  refine s_aload_n F dX2_wentIn_0 rfl 0 rfl ?_
  have hw_1 := wf_ref F.2.2.2.2.2.2.1 hq 14 8 (.inr (0, 24)) rfl
  refine s_getr F ciX2 14 8 (.inr (0, 24)) hq (by decide) rfl rfl m120 dX2_wentIn_1 ?_
  refine s_iload_n F dX2_wentIn_4 rfl 1 rfl ?_
  refine s_bipush F (v := 12) dX2_wentIn_5 (by decide) ?_
  refine s_imul F dX2_wentIn_7 ?_
  refine s_aload_n F dX2_wentIn_8 rfl 0 rfl ?_
  refine s_geti F ciX2 3 hq (by decide) rfl rfl m89 dX2_wentIn_9 ?_
  refine s_iadd F dX2_wentIn_12 ?_
  refine s_leti (fun v_2 => ?_)
  refine s_iald F hw_1 dX2_wentIn_13 ?_
  refine s_iload_n F dX2_wentIn_14 rfl 2 rfl ?_
  refine s_callSNi (f := fun hh => f_X7_bitOf (h (q + 8) (v_2 : Int32).toNatClampNeg) x2 hh) (As := [.int (h (q + 8) (v_2 : Int32).toNatClampNeg), .int x2]) F ys_X7_bitOf (ct_X7_bitOf z.2.1 g (h (q + 8) (v_2 : Int32).toNatClampNeg) x2) (by decide) (List.mem_of_getElem? (i := 1) rfl) rfl rfl (Nat.le_of_ble_eq_true rfl) dX2_wentIn_15 (fun v_4 h_3 e_v_4 => ?_)
  exact s_iret F dX2_wentIn_18
theorem dX2_goBy_0 : decode cX2_goBy 0 = .ok (.aload_n 0, 1) := by decide +kernel
theorem dX2_goBy_1 : decode cX2_goBy 1 = .ok (.aload_n 0, 1) := by decide +kernel
theorem dX2_goBy_2 : decode cX2_goBy 2 = .ok (.getfield 56, 3) := by decide +kernel
theorem dX2_goBy_5 : decode cX2_goBy 5 = .ok (.iload_n 1, 1) := by decide +kernel
theorem dX2_goBy_6 : decode cX2_goBy 6 = .ok (.iconst 1, 1) := by decide +kernel
theorem dX2_goBy_7 : decode cX2_goBy 7 = .ok (.invokestatic 87, 3) := by decide +kernel
theorem dX2_goBy_10 : decode cX2_goBy 10 = .ok (.putfield 56, 3) := by decide +kernel
theorem dX2_goBy_13 : decode cX2_goBy 13 = .ok (.aload_n 0, 1) := by decide +kernel
theorem dX2_goBy_14 : decode cX2_goBy 14 = .ok (.aload_n 0, 1) := by decide +kernel
theorem dX2_goBy_15 : decode cX2_goBy 15 = .ok (.iload_n 1, 1) := by decide +kernel
theorem dX2_goBy_16 : decode cX2_goBy 16 = .ok (.invokevirtual 118, 3) := by decide +kernel
theorem dX2_goBy_19 : decode cX2_goBy 19 = .ok (.iload_n 2, 1) := by decide +kernel
theorem dX2_goBy_20 : decode cX2_goBy 20 = .ok (.iconst 1, 1) := by decide +kernel
theorem dX2_goBy_21 : decode cX2_goBy 21 = .ok (.invokevirtual 128, 3) := by decide +kernel
theorem dX2_goBy_24 : decode cX2_goBy 24 = .ok (.aload_n 0, 1) := by decide +kernel
theorem dX2_goBy_25 : decode cX2_goBy 25 = .ok (.dup, 1) := by decide +kernel
theorem dX2_goBy_26 : decode cX2_goBy 26 = .ok (.getfield 50, 3) := by decide +kernel
theorem dX2_goBy_29 : decode cX2_goBy 29 = .ok (.iload_n 3, 1) := by decide +kernel
theorem dX2_goBy_30 : decode cX2_goBy 30 = .ok (.iadd, 1) := by decide +kernel
theorem dX2_goBy_31 : decode cX2_goBy 31 = .ok (.putfield 50, 3) := by decide +kernel
theorem dX2_goBy_34 : decode cX2_goBy 34 = .ok (.return_, 1) := by decide +kernel
theorem yv_X2_goBy : YV yX2_goBy cX2_goBy 4 none 3 := ⟨m627, m628, m5, m629, ⟨by decide +kernel, by decide +kernel, by decide +kernel⟩, by decide⟩
noncomputable def f_X2_goBy (q : Nat) (x1 : Int32) (x2 : Int32) (x3 : Int32) (h : AH) : Option (Unit × AH) := bd (f_X7_withBit (h q 6) x1 1 h) (fun v_2 h_1 => lt (hset h_1 q 6 v_2) (fun h_3 => bd (f_X2_sideOf q x1 h_3) (fun v_5 h_4 => bd (f_X2_markWent q v_5 x2 1 h_4) (fun _ h_6 => lt (hset h_6 q 4 ((h_6 q 4) + x3)) (fun h_8 => some ((), h_8))))))
set_option maxRecDepth 20000 in
set_option maxHeartbeats 4000000 in
theorem ct_X2_goBy (l : Launch) (g : GC) {q : Nat} (hq : (gL g)[q]? = some (.inl 2)) (x1 : Int32) (x2 : Int32) (x3 : Int32) : Ct l yX2_goBy cX2_goBy 4 none 3 [.ref (gad g q), .int x1, .int x2, .int x3] g mkU (fun h => f_X2_goBy q x1 x2 x3 h) := by
  refine Ct.of (by decide +kernel) (Nat.le_of_ble_eq_true rfl) (fun z A h _ F => ?_)
  show Snd z 4 g A (QF z g A mkU) 0 [(0, .ref (gad g q)), (1, .int x1), (2, .int x2), (3, .int x3)] [] h (f_X2_goBy q x1 x2 x3 h)
  unfold f_X2_goBy
  refine s_aload_n F dX2_goBy_0 rfl 0 rfl ?_
  refine s_aload_n F dX2_goBy_1 rfl 0 rfl ?_
  refine s_geti F ciX2 6 hq (by decide) rfl rfl m97 dX2_goBy_2 ?_
  refine s_iload_n F dX2_goBy_5 rfl 1 rfl ?_
  refine s_iconst F (v := 1) dX2_goBy_6 (by decide) ?_
  refine s_callSNi (f := fun hh => f_X7_withBit (h q 6) x1 1 hh) (As := [.int (h q 6), .int x1, .int 1]) F ys_X7_withBit (ct_X7_withBit z.2.1 g (h q 6) x1 1) (by decide) (List.mem_of_getElem? (i := 2) rfl) rfl rfl (Nat.le_of_ble_eq_true rfl) dX2_goBy_7 (fun v_2 h_1 e_v_2 => ?_)
  refine s_put F ciX2 (k := 6) hq (by decide) rfl rfl rfl rfl m97 dX2_goBy_10 ?_
  refine s_letH (fun h_3 => ?_)
  refine s_aload_n F dX2_goBy_13 rfl 0 rfl ?_
  refine s_aload_n F dX2_goBy_14 rfl 0 rfl ?_
  refine s_iload_n F dX2_goBy_15 rfl 1 rfl ?_
  refine s_callVi (f := fun hh => f_X2_sideOf q x1 hh) (As := [.int x1]) F yv_X2_sideOf (ct_X2_sideOf z.2.1 g hq x1) (by decide) m599 hq rfl rfl rfl (Nat.le_of_ble_eq_true rfl) dX2_goBy_16 (fun v_5 h_4 e_v_5 => ?_)
  refine s_iload_n F dX2_goBy_19 rfl 2 rfl ?_
  refine s_iconst F (v := 1) dX2_goBy_20 (by decide) ?_
  refine s_callVu (f := fun hh => f_X2_markWent q v_5 x2 1 hh) (As := [.int v_5, .int x2, .int 1]) F yv_X2_markWent (ct_X2_markWent z.2.1 g hq v_5 x2 1) (by decide) m630 hq rfl rfl rfl (Nat.le_of_ble_eq_true rfl) dX2_goBy_21 (fun _ h_6 e_v_7 => ?_)
  refine s_aload_n F dX2_goBy_24 rfl 0 rfl ?_
  refine s_dup F dX2_goBy_25 rfl ?_
  refine s_geti F ciX2 4 hq (by decide) rfl rfl m92 dX2_goBy_26 ?_
  refine s_iload_n F dX2_goBy_29 rfl 3 rfl ?_
  refine s_iadd F dX2_goBy_30 ?_
  refine s_put F ciX2 (k := 4) hq (by decide) rfl rfl rfl rfl m92 dX2_goBy_31 ?_
  refine s_letH (fun h_8 => ?_)
  exact s_vret F dX2_goBy_34
theorem dX2_splitOff_0 : decode cX2_splitOff 0 = .ok (.aload_n 0, 1) := by decide +kernel
theorem dX2_splitOff_1 : decode cX2_splitOff 1 = .ok (.getfield 44, 3) := by decide +kernel
theorem dX2_splitOff_4 : decode cX2_splitOff 4 = .ok (.istore_n 3, 1) := by decide +kernel
theorem dX2_splitOff_5 : decode cX2_splitOff 5 = .ok (.aload_n 0, 1) := by decide +kernel
theorem dX2_splitOff_6 : decode cX2_splitOff 6 = .ok (.dup, 1) := by decide +kernel
theorem dX2_splitOff_7 : decode cX2_splitOff 7 = .ok (.getfield 44, 3) := by decide +kernel
theorem dX2_splitOff_10 : decode cX2_splitOff 10 = .ok (.iconst 1, 1) := by decide +kernel
theorem dX2_splitOff_11 : decode cX2_splitOff 11 = .ok (.iadd, 1) := by decide +kernel
theorem dX2_splitOff_12 : decode cX2_splitOff 12 = .ok (.putfield 44, 3) := by decide +kernel
theorem dX2_splitOff_15 : decode cX2_splitOff 15 = .ok (.aload_n 0, 1) := by decide +kernel
theorem dX2_splitOff_16 : decode cX2_splitOff 16 = .ok (.getfield 24, 3) := by decide +kernel
theorem dX2_splitOff_19 : decode cX2_splitOff 19 = .ok (.iload_n 3, 1) := by decide +kernel
theorem dX2_splitOff_20 : decode cX2_splitOff 20 = .ok (.aload_n 0, 1) := by decide +kernel
theorem dX2_splitOff_21 : decode cX2_splitOff 21 = .ok (.getfield 24, 3) := by decide +kernel
theorem dX2_splitOff_24 : decode cX2_splitOff 24 = .ok (.iload_n 1, 1) := by decide +kernel
theorem dX2_splitOff_25 : decode cX2_splitOff 25 = .ok (.iaload, 1) := by decide +kernel
theorem dX2_splitOff_26 : decode cX2_splitOff 26 = .ok (.iastore, 1) := by decide +kernel
theorem dX2_splitOff_27 : decode cX2_splitOff 27 = .ok (.aload_n 0, 1) := by decide +kernel
theorem dX2_splitOff_28 : decode cX2_splitOff 28 = .ok (.getfield 27, 3) := by decide +kernel
theorem dX2_splitOff_31 : decode cX2_splitOff 31 = .ok (.iload_n 3, 1) := by decide +kernel
theorem dX2_splitOff_32 : decode cX2_splitOff 32 = .ok (.aload_n 0, 1) := by decide +kernel
theorem dX2_splitOff_33 : decode cX2_splitOff 33 = .ok (.getfield 27, 3) := by decide +kernel
theorem dX2_splitOff_36 : decode cX2_splitOff 36 = .ok (.iload_n 1, 1) := by decide +kernel
theorem dX2_splitOff_37 : decode cX2_splitOff 37 = .ok (.iaload, 1) := by decide +kernel
theorem dX2_splitOff_38 : decode cX2_splitOff 38 = .ok (.iastore, 1) := by decide +kernel
theorem dX2_splitOff_39 : decode cX2_splitOff 39 = .ok (.iconst 0, 1) := by decide +kernel
theorem dX2_splitOff_40 : decode cX2_splitOff 40 = .ok (.istore 4, 2) := by decide +kernel
theorem dX2_splitOff_42 : decode cX2_splitOff 42 = .ok (.iload 4, 2) := by decide +kernel
theorem dX2_splitOff_44 : decode cX2_splitOff 44 = .ok (.iconst 4, 1) := by decide +kernel
theorem dX2_splitOff_45 : decode cX2_splitOff 45 = .ok (.if_icmp .ge 21, 3) := by decide +kernel
theorem dX2_splitOff_48 : decode cX2_splitOff 48 = .ok (.aload_n 0, 1) := by decide +kernel
theorem dX2_splitOff_49 : decode cX2_splitOff 49 = .ok (.getfield 30, 3) := by decide +kernel
theorem dX2_splitOff_52 : decode cX2_splitOff 52 = .ok (.iload_n 3, 1) := by decide +kernel
theorem dX2_splitOff_53 : decode cX2_splitOff 53 = .ok (.iload 4, 2) := by decide +kernel
theorem dX2_splitOff_55 : decode cX2_splitOff 55 = .ok (.invokestatic 78, 3) := by decide +kernel
theorem dX2_splitOff_58 : decode cX2_splitOff 58 = .ok (.iconst 0, 1) := by decide +kernel
theorem dX2_splitOff_59 : decode cX2_splitOff 59 = .ok (.iastore, 1) := by decide +kernel
theorem dX2_splitOff_60 : decode cX2_splitOff 60 = .ok (.iinc 4 1, 3) := by decide +kernel
theorem dX2_splitOff_63 : decode cX2_splitOff 63 = .ok (.goto (-21), 3) := by decide +kernel
theorem dX2_splitOff_66 : decode cX2_splitOff 66 = .ok (.aload_n 0, 1) := by decide +kernel
theorem dX2_splitOff_67 : decode cX2_splitOff 67 = .ok (.getfield 30, 3) := by decide +kernel
theorem dX2_splitOff_70 : decode cX2_splitOff 70 = .ok (.iload_n 3, 1) := by decide +kernel
theorem dX2_splitOff_71 : decode cX2_splitOff 71 = .ok (.iload_n 2, 1) := by decide +kernel
theorem dX2_splitOff_72 : decode cX2_splitOff 72 = .ok (.invokestatic 78, 3) := by decide +kernel
theorem dX2_splitOff_75 : decode cX2_splitOff 75 = .ok (.aload_n 0, 1) := by decide +kernel
theorem dX2_splitOff_76 : decode cX2_splitOff 76 = .ok (.iload_n 1, 1) := by decide +kernel
theorem dX2_splitOff_77 : decode cX2_splitOff 77 = .ok (.iload_n 2, 1) := by decide +kernel
theorem dX2_splitOff_78 : decode cX2_splitOff 78 = .ok (.invokevirtual 81, 3) := by decide +kernel
theorem dX2_splitOff_81 : decode cX2_splitOff 81 = .ok (.iastore, 1) := by decide +kernel
theorem dX2_splitOff_82 : decode cX2_splitOff 82 = .ok (.aload_n 0, 1) := by decide +kernel
theorem dX2_splitOff_83 : decode cX2_splitOff 83 = .ok (.getfield 30, 3) := by decide +kernel
theorem dX2_splitOff_86 : decode cX2_splitOff 86 = .ok (.iload_n 1, 1) := by decide +kernel
theorem dX2_splitOff_87 : decode cX2_splitOff 87 = .ok (.iload_n 2, 1) := by decide +kernel
theorem dX2_splitOff_88 : decode cX2_splitOff 88 = .ok (.invokestatic 78, 3) := by decide +kernel
theorem dX2_splitOff_91 : decode cX2_splitOff 91 = .ok (.iconst 0, 1) := by decide +kernel
theorem dX2_splitOff_92 : decode cX2_splitOff 92 = .ok (.iastore, 1) := by decide +kernel
theorem dX2_splitOff_93 : decode cX2_splitOff 93 = .ok (.iload_n 3, 1) := by decide +kernel
theorem dX2_splitOff_94 : decode cX2_splitOff 94 = .ok (.ireturn, 1) := by decide +kernel
theorem yv_X2_splitOff : YV yX2_splitOff cX2_splitOff 5 (some .int) 2 := ⟨m644, m645, m5, m646, ⟨by decide +kernel, by decide +kernel, by decide +kernel⟩, by decide⟩
noncomputable def f_X2_splitOff_42 (q : Nat) : Nat → Int32 → Int32 → Int32 → Int32 → AH → Option (Int32 × AH)
  | 0, _, _, _, _, _ => none
  | n + 1, x1, x2, x3, x4, h => if (4 : Int32) ≤ x4 then (bd (f_X2_loadPlace x3 x2 h) (fun v_3 h_2 => bd (f_X2_loadOf q x1 x2 h_2) (fun v_5 h_4 => ck v_3 24 (lt (hset h_4 (q + 7) (v_3 : Int32).toNatClampNeg v_5) (fun h_6 => bd (f_X2_loadPlace x1 x2 h_6) (fun v_9 h_8 => ck v_9 24 (lt (hset h_8 (q + 7) (v_9 : Int32).toNatClampNeg 0) (fun h_10 => some (x3, h_10))))))))) else (bd (f_X2_loadPlace x3 x4 h) (fun v_13 h_12 => ck v_13 24 (lt (hset h_12 (q + 7) (v_13 : Int32).toNatClampNeg 0) (fun h_14 => lt (x4 + 1) (fun v_15 => (f_X2_splitOff_42 q n) x1 x2 x3 v_15 h_14)))))
set_option maxRecDepth 20000 in
set_option maxHeartbeats 4000000 in
theorem t_X2_splitOff_42 {z : MC} {g : GC} {A : Nat → Prop} (F : Fx z cX2_splitOff 5 RX2 (some .int) 3 g A) {q : Nat} (hq : (gL g)[q]? = some (.inl 2)) : ∀ (n : Nat) (x1 : Int32) (x2 : Int32) (x3 : Int32) (x4 : Int32) (h : AH), Snd z 5 g A (QF z g A mkI) 42 [(0, .ref (gad g q)), (1, .int x1), (2, .int x2), (3, .int x3), (4, .int x4)] [] h (f_X2_splitOff_42 q n x1 x2 x3 x4 h) := by
  intro n
  induction n with
  | zero => intros; exact s_none
  | succ n ih =>
    intro x1 x2 x3 x4 h
    unfold f_X2_splitOff_42
    refine s_iload F dX2_splitOff_42 4 rfl ?_
    refine s_iconst F (v := 4) dX2_splitOff_44 (by decide) ?_
    refine s_icmp_ge F 66 dX2_splitOff_45 (by decide) (fun _ => ?_) (fun _ => ?_)
    · refine s_aload_n F dX2_splitOff_66 rfl 0 rfl ?_
      have hw_1 := wf_ref F.2.2.2.2.2.2.1 hq 13 7 (.inr (0, 24)) rfl
      refine s_getr F ciX2 13 7 (.inr (0, 24)) hq (by decide) rfl rfl m118 dX2_splitOff_67 ?_
      refine s_iload_n F dX2_splitOff_70 rfl 3 rfl ?_
      refine s_iload_n F dX2_splitOff_71 rfl 2 rfl ?_
      refine s_callSi (f := fun hh => f_X2_loadPlace x3 x2 hh) (As := [.int x3, .int x2]) F ys_X2_loadPlace (ct_X2_loadPlace z.2.1 g x3 x2) (by decide) m591 rfl rfl (Nat.le_of_ble_eq_true rfl) dX2_splitOff_72 (fun v_3 h_2 e_v_3 => ?_)
      refine s_aload_n F dX2_splitOff_75 rfl 0 rfl ?_
      refine s_iload_n F dX2_splitOff_76 rfl 1 rfl ?_
      refine s_iload_n F dX2_splitOff_77 rfl 2 rfl ?_
      refine s_callVi (f := fun hh => f_X2_loadOf q x1 x2 hh) (As := [.int x1, .int x2]) F yv_X2_loadOf (ct_X2_loadOf z.2.1 g hq x1 x2) (by decide) m587 hq rfl rfl rfl (Nat.le_of_ble_eq_true rfl) dX2_splitOff_78 (fun v_5 h_4 e_v_5 => ?_)
      refine s_iast F hw_1 dX2_splitOff_81 ?_
      refine s_letH (fun h_6 => ?_)
      refine s_aload_n F dX2_splitOff_82 rfl 0 rfl ?_
      have hw_7 := wf_ref F.2.2.2.2.2.2.1 hq 13 7 (.inr (0, 24)) rfl
      refine s_getr F ciX2 13 7 (.inr (0, 24)) hq (by decide) rfl rfl m118 dX2_splitOff_83 ?_
      refine s_iload_n F dX2_splitOff_86 rfl 1 rfl ?_
      refine s_iload_n F dX2_splitOff_87 rfl 2 rfl ?_
      refine s_callSi (f := fun hh => f_X2_loadPlace x1 x2 hh) (As := [.int x1, .int x2]) F ys_X2_loadPlace (ct_X2_loadPlace z.2.1 g x1 x2) (by decide) m591 rfl rfl (Nat.le_of_ble_eq_true rfl) dX2_splitOff_88 (fun v_9 h_8 e_v_9 => ?_)
      refine s_iconst F (v := 0) dX2_splitOff_91 (by decide) ?_
      refine s_iast F hw_7 dX2_splitOff_92 ?_
      refine s_letH (fun h_10 => ?_)
      refine s_iload_n F dX2_splitOff_93 rfl 3 rfl ?_
      exact s_iret F dX2_splitOff_94
    · refine s_aload_n F dX2_splitOff_48 rfl 0 rfl ?_
      have hw_11 := wf_ref F.2.2.2.2.2.2.1 hq 13 7 (.inr (0, 24)) rfl
      refine s_getr F ciX2 13 7 (.inr (0, 24)) hq (by decide) rfl rfl m118 dX2_splitOff_49 ?_
      refine s_iload_n F dX2_splitOff_52 rfl 3 rfl ?_
      refine s_iload F dX2_splitOff_53 4 rfl ?_
      refine s_callSi (f := fun hh => f_X2_loadPlace x3 x4 hh) (As := [.int x3, .int x4]) F ys_X2_loadPlace (ct_X2_loadPlace z.2.1 g x3 x4) (by decide) m591 rfl rfl (Nat.le_of_ble_eq_true rfl) dX2_splitOff_55 (fun v_13 h_12 e_v_13 => ?_)
      refine s_iconst F (v := 0) dX2_splitOff_58 (by decide) ?_
      refine s_iast F hw_11 dX2_splitOff_59 ?_
      refine s_letH (fun h_14 => ?_)
      refine s_iincv F dX2_splitOff_60 4 rfl (by decide) (c := 1) (by decide) (fun v_15 => ?_)
      refine s_lv (lv' := [(4, .int v_15), (0, .ref (gad g q)), (1, .int x1), (2, .int x2), (3, .int x3)]) rfl ?_
      refine s_goto F 42 dX2_splitOff_63 (by decide) ?_
      exact s_sub [1, 2, 3, 4, 0] rfl (ih x1 x2 x3 v_15 h_14)
noncomputable def f_X2_splitOff (q : Nat) (x1 : Int32) (x2 : Int32) (h : AH) : Option (Int32 × AH) := lt (h q 2) (fun v_1 => lt (hset h q 2 ((h q 2) + 1)) (fun h_2 => ck x1 6 (ck v_1 6 (lt (hset h_2 (q + 5) (v_1 : Int32).toNatClampNeg (h_2 (q + 5) (x1 : Int32).toNatClampNeg)) (fun h_5 => ck x1 6 (ck v_1 6 (lt (hset h_5 (q + 6) (v_1 : Int32).toNatClampNeg (h_5 (q + 6) (x1 : Int32).toNatClampNeg)) (fun h_8 => f_X2_splitOff_42 q fu x1 x2 v_1 0 h_8))))))))
set_option maxRecDepth 20000 in
set_option maxHeartbeats 4000000 in
theorem ct_X2_splitOff (l : Launch) (g : GC) {q : Nat} (hq : (gL g)[q]? = some (.inl 2)) (x1 : Int32) (x2 : Int32) : Ct l yX2_splitOff cX2_splitOff 5 (some .int) 3 [.ref (gad g q), .int x1, .int x2] g mkI (fun h => f_X2_splitOff q x1 x2 h) := by
  refine Ct.of (by decide +kernel) (Nat.le_of_ble_eq_true rfl) (fun z A h _ F => ?_)
  show Snd z 5 g A (QF z g A mkI) 0 [(0, .ref (gad g q)), (1, .int x1), (2, .int x2)] [] h (f_X2_splitOff q x1 x2 h)
  unfold f_X2_splitOff
  refine s_aload_n F dX2_splitOff_0 rfl 0 rfl ?_
  refine s_geti F ciX2 2 hq (by decide) rfl rfl m85 dX2_splitOff_1 ?_
  refine s_leti (fun v_1 => ?_)
  refine s_istore_n F (lv' := [(3, .int v_1), (0, .ref (gad g q)), (1, .int x1), (2, .int x2)]) dX2_splitOff_4 rfl (by decide) rfl ?_
  refine s_aload_n F dX2_splitOff_5 rfl 1 rfl ?_
  refine s_dup F dX2_splitOff_6 rfl ?_
  refine s_geti F ciX2 2 hq (by decide) rfl rfl m85 dX2_splitOff_7 ?_
  refine s_iconst F (v := 1) dX2_splitOff_10 (by decide) ?_
  refine s_iadd F dX2_splitOff_11 ?_
  refine s_put F ciX2 (k := 2) hq (by decide) rfl rfl rfl rfl m85 dX2_splitOff_12 ?_
  refine s_letH (fun h_2 => ?_)
  refine s_aload_n F dX2_splitOff_15 rfl 1 rfl ?_
  have hw_3 := wf_ref F.2.2.2.2.2.2.1 hq 11 5 (.inr (0, 6)) rfl
  refine s_getr F ciX2 11 5 (.inr (0, 6)) hq (by decide) rfl rfl m110 dX2_splitOff_16 ?_
  refine s_iload_n F dX2_splitOff_19 rfl 0 rfl ?_
  refine s_aload_n F dX2_splitOff_20 rfl 1 rfl ?_
  have hw_4 := wf_ref F.2.2.2.2.2.2.1 hq 11 5 (.inr (0, 6)) rfl
  refine s_getr F ciX2 11 5 (.inr (0, 6)) hq (by decide) rfl rfl m110 dX2_splitOff_21 ?_
  refine s_iload_n F dX2_splitOff_24 rfl 2 rfl ?_
  refine s_iald F hw_4 dX2_splitOff_25 ?_
  refine s_iast F hw_3 dX2_splitOff_26 ?_
  refine s_letH (fun h_5 => ?_)
  refine s_aload_n F dX2_splitOff_27 rfl 1 rfl ?_
  have hw_6 := wf_ref F.2.2.2.2.2.2.1 hq 12 6 (.inr (0, 6)) rfl
  refine s_getr F ciX2 12 6 (.inr (0, 6)) hq (by decide) rfl rfl m114 dX2_splitOff_28 ?_
  refine s_iload_n F dX2_splitOff_31 rfl 0 rfl ?_
  refine s_aload_n F dX2_splitOff_32 rfl 1 rfl ?_
  have hw_7 := wf_ref F.2.2.2.2.2.2.1 hq 12 6 (.inr (0, 6)) rfl
  refine s_getr F ciX2 12 6 (.inr (0, 6)) hq (by decide) rfl rfl m114 dX2_splitOff_33 ?_
  refine s_iload_n F dX2_splitOff_36 rfl 2 rfl ?_
  refine s_iald F hw_7 dX2_splitOff_37 ?_
  refine s_iast F hw_6 dX2_splitOff_38 ?_
  refine s_letH (fun h_8 => ?_)
  refine s_iconst F (v := 0) dX2_splitOff_39 (by decide) ?_
  refine s_istore F (lv' := [(4, .int 0), (3, .int v_1), (0, .ref (gad g q)), (1, .int x1), (2, .int x2)]) dX2_splitOff_40 (by decide) rfl ?_
  exact s_sub [2, 3, 4, 1, 0] rfl (t_X2_splitOff_42 F hq fu x1 x2 v_1 0 h_8)
