theorem dX0_kept_0 : decode cX0_kept 0 = .ok (.aload_n 0, 1) := by decide +kernel
theorem dX0_kept_1 : decode cX0_kept 1 = .ok (.getfield 22, 3) := by decide +kernel
theorem dX0_kept_4 : decode cX0_kept 4 = .ok (.ireturn, 1) := by decide +kernel
theorem yv_X0_kept : YV yX0_kept cX0_kept 1 (some .int) 0 := ⟨m656, m657, m6, m658, ⟨by decide +kernel, by decide +kernel, by decide +kernel⟩, by decide⟩
noncomputable def f_X0_kept (q : Nat) (h : AH) : Option (Int32 × AH) := some (h q 5, h)
set_option maxRecDepth 20000 in
set_option maxHeartbeats 4000000 in
theorem ct_X0_kept (l : Launch) (g : GC) {q : Nat} (hq : (gL g)[q]? = some (.inl 0)) : Ct l yX0_kept cX0_kept 1 (some .int) 1 [.ref (gad g q)] g mkI (fun h => f_X0_kept q h) := by
  refine Ct.of (by decide +kernel) (Nat.le_of_ble_eq_true rfl) (fun z A h _ F => ?_)
  show Snd z 1 g A (QF z g A mkI) 0 [(0, .ref (gad g q))] [] h (f_X0_kept q h)
  unfold f_X0_kept
  refine s_aload_n F dX0_kept_0 rfl 0 rfl ?_
  refine s_geti F ciX0 5 hq (by decide) rfl rfl m172 dX0_kept_1 ?_
  exact s_iret F dX0_kept_4
theorem dX0_forget_0 : decode cX0_forget 0 = .ok (.aload_n 0, 1) := by decide +kernel
theorem dX0_forget_1 : decode cX0_forget 1 = .ok (.iconst 0, 1) := by decide +kernel
theorem dX0_forget_2 : decode cX0_forget 2 = .ok (.putfield 22, 3) := by decide +kernel
theorem dX0_forget_5 : decode cX0_forget 5 = .ok (.return_, 1) := by decide +kernel
theorem yv_X0_forget : YV yX0_forget cX0_forget 1 none 0 := ⟨m520, m521, m6, m522, ⟨by decide +kernel, by decide +kernel, by decide +kernel⟩, by decide⟩
noncomputable def f_X0_forget (q : Nat) (h : AH) : Option (Unit × AH) := lt (hset h q 5 0) (fun h_1 => some ((), h_1))
set_option maxRecDepth 20000 in
set_option maxHeartbeats 4000000 in
theorem ct_X0_forget (l : Launch) (g : GC) {q : Nat} (hq : (gL g)[q]? = some (.inl 0)) : Ct l yX0_forget cX0_forget 1 none 1 [.ref (gad g q)] g mkU (fun h => f_X0_forget q h) := by
  refine Ct.of (by decide +kernel) (Nat.le_of_ble_eq_true rfl) (fun z A h _ F => ?_)
  show Snd z 1 g A (QF z g A mkU) 0 [(0, .ref (gad g q))] [] h (f_X0_forget q h)
  unfold f_X0_forget
  refine s_aload_n F dX0_forget_0 rfl 0 rfl ?_
  refine s_iconst F (v := 0) dX0_forget_1 (by decide) ?_
  refine s_put F ciX0 (k := 5) hq (by decide) rfl rfl rfl rfl m172 dX0_forget_2 ?_
  refine s_letH (fun h_1 => ?_)
  exact s_vret F dX0_forget_5
theorem dX0_keep_0 : decode cX0_keep 0 = .ok (.aload_n 0, 1) := by decide +kernel
theorem dX0_keep_1 : decode cX0_keep 1 = .ok (.getfield 22, 3) := by decide +kernel
theorem dX0_keep_4 : decode cX0_keep 4 = .ok (.bipush 24, 2) := by decide +kernel
theorem dX0_keep_6 : decode cX0_keep 6 = .ok (.if_icmp .ne 26, 3) := by decide +kernel
theorem dX0_keep_9 : decode cX0_keep 9 = .ok (.aload_n 0, 1) := by decide +kernel
theorem dX0_keep_10 : decode cX0_keep 10 = .ok (.aload_n 0, 1) := by decide +kernel
theorem dX0_keep_11 : decode cX0_keep 11 = .ok (.getfield 26, 3) := by decide +kernel
theorem dX0_keep_14 : decode cX0_keep 14 = .ok (.iconst 1, 1) := by decide +kernel
theorem dX0_keep_15 : decode cX0_keep 15 = .ok (.iadd, 1) := by decide +kernel
theorem dX0_keep_16 : decode cX0_keep 16 = .ok (.bipush 24, 2) := by decide +kernel
theorem dX0_keep_18 : decode cX0_keep 18 = .ok (.irem, 1) := by decide +kernel
theorem dX0_keep_19 : decode cX0_keep 19 = .ok (.putfield 26, 3) := by decide +kernel
theorem dX0_keep_22 : decode cX0_keep 22 = .ok (.aload_n 0, 1) := by decide +kernel
theorem dX0_keep_23 : decode cX0_keep 23 = .ok (.dup, 1) := by decide +kernel
theorem dX0_keep_24 : decode cX0_keep 24 = .ok (.getfield 22, 3) := by decide +kernel
theorem dX0_keep_27 : decode cX0_keep 27 = .ok (.iconst 1, 1) := by decide +kernel
theorem dX0_keep_28 : decode cX0_keep 28 = .ok (.isub, 1) := by decide +kernel
theorem dX0_keep_29 : decode cX0_keep 29 = .ok (.putfield 22, 3) := by decide +kernel
theorem dX0_keep_32 : decode cX0_keep 32 = .ok (.aload_n 0, 1) := by decide +kernel
theorem dX0_keep_33 : decode cX0_keep 33 = .ok (.getfield 26, 3) := by decide +kernel
theorem dX0_keep_36 : decode cX0_keep 36 = .ok (.aload_n 0, 1) := by decide +kernel
theorem dX0_keep_37 : decode cX0_keep 37 = .ok (.getfield 22, 3) := by decide +kernel
theorem dX0_keep_40 : decode cX0_keep 40 = .ok (.iadd, 1) := by decide +kernel
theorem dX0_keep_41 : decode cX0_keep 41 = .ok (.bipush 24, 2) := by decide +kernel
theorem dX0_keep_43 : decode cX0_keep 43 = .ok (.irem, 1) := by decide +kernel
theorem dX0_keep_44 : decode cX0_keep 44 = .ok (.istore 5, 2) := by decide +kernel
theorem dX0_keep_46 : decode cX0_keep 46 = .ok (.aload_n 0, 1) := by decide +kernel
theorem dX0_keep_47 : decode cX0_keep 47 = .ok (.getfield 9, 3) := by decide +kernel
theorem dX0_keep_50 : decode cX0_keep 50 = .ok (.iload 5, 2) := by decide +kernel
theorem dX0_keep_52 : decode cX0_keep 52 = .ok (.iload_n 1, 1) := by decide +kernel
theorem dX0_keep_53 : decode cX0_keep 53 = .ok (.iastore, 1) := by decide +kernel
theorem dX0_keep_54 : decode cX0_keep 54 = .ok (.aload_n 0, 1) := by decide +kernel
theorem dX0_keep_55 : decode cX0_keep 55 = .ok (.getfield 13, 3) := by decide +kernel
theorem dX0_keep_58 : decode cX0_keep 58 = .ok (.iload 5, 2) := by decide +kernel
theorem dX0_keep_60 : decode cX0_keep 60 = .ok (.iload_n 2, 1) := by decide +kernel
theorem dX0_keep_61 : decode cX0_keep 61 = .ok (.iastore, 1) := by decide +kernel
theorem dX0_keep_62 : decode cX0_keep 62 = .ok (.aload_n 0, 1) := by decide +kernel
theorem dX0_keep_63 : decode cX0_keep 63 = .ok (.getfield 16, 3) := by decide +kernel
theorem dX0_keep_66 : decode cX0_keep 66 = .ok (.iload 5, 2) := by decide +kernel
theorem dX0_keep_68 : decode cX0_keep 68 = .ok (.iload_n 3, 1) := by decide +kernel
theorem dX0_keep_69 : decode cX0_keep 69 = .ok (.iastore, 1) := by decide +kernel
theorem dX0_keep_70 : decode cX0_keep 70 = .ok (.aload_n 0, 1) := by decide +kernel
theorem dX0_keep_71 : decode cX0_keep 71 = .ok (.getfield 19, 3) := by decide +kernel
theorem dX0_keep_74 : decode cX0_keep 74 = .ok (.iload 5, 2) := by decide +kernel
theorem dX0_keep_76 : decode cX0_keep 76 = .ok (.iload 4, 2) := by decide +kernel
theorem dX0_keep_78 : decode cX0_keep 78 = .ok (.iastore, 1) := by decide +kernel
theorem dX0_keep_79 : decode cX0_keep 79 = .ok (.aload_n 0, 1) := by decide +kernel
theorem dX0_keep_80 : decode cX0_keep 80 = .ok (.dup, 1) := by decide +kernel
theorem dX0_keep_81 : decode cX0_keep 81 = .ok (.getfield 22, 3) := by decide +kernel
theorem dX0_keep_84 : decode cX0_keep 84 = .ok (.iconst 1, 1) := by decide +kernel
theorem dX0_keep_85 : decode cX0_keep 85 = .ok (.iadd, 1) := by decide +kernel
theorem dX0_keep_86 : decode cX0_keep 86 = .ok (.putfield 22, 3) := by decide +kernel
theorem dX0_keep_89 : decode cX0_keep 89 = .ok (.return_, 1) := by decide +kernel
theorem yv_X0_keep : YV yX0_keep cX0_keep 6 none 4 := ⟨m545, m546, m6, m547, ⟨by decide +kernel, by decide +kernel, by decide +kernel⟩, by decide⟩
noncomputable def f_X0_keep_32 (q : Nat) (x1 : Int32) (x2 : Int32) (x3 : Int32) (x4 : Int32) (h : AH) : Option (Unit × AH) := lt (((h q 4) + (h q 5))) (fun v_1 => lt ((v_1 - v_1 / 24 * 24)) (fun v_2 => ck v_2 24 (lt (hset h (q + 1) (v_2 : Int32).toNatClampNeg x1) (fun h_4 => ck v_2 24 (lt (hset h_4 (q + 2) (v_2 : Int32).toNatClampNeg x2) (fun h_6 => ck v_2 24 (lt (hset h_6 (q + 3) (v_2 : Int32).toNatClampNeg x3) (fun h_8 => ck v_2 24 (lt (hset h_8 (q + 4) (v_2 : Int32).toNatClampNeg x4) (fun h_10 => lt (hset h_10 q 5 ((h_10 q 5) + 1)) (fun h_11 => some ((), h_11))))))))))))
set_option maxRecDepth 20000 in
set_option maxHeartbeats 4000000 in
theorem t_X0_keep_32 {z : MC} {g : GC} {A : Nat → Prop} (F : Fx z cX0_keep 6 RX0 none 1 g A) {q : Nat} (hq : (gL g)[q]? = some (.inl 0)) : ∀ (x1 : Int32) (x2 : Int32) (x3 : Int32) (x4 : Int32) (h : AH), Snd z 6 g A (QF z g A mkU) 32 [(0, .ref (gad g q)), (1, .int x1), (2, .int x2), (3, .int x3), (4, .int x4)] [] h (f_X0_keep_32 q x1 x2 x3 x4 h) := by
  intro x1 x2 x3 x4 h
  unfold f_X0_keep_32
  refine s_aload_n F dX0_keep_32 rfl 0 rfl ?_
  refine s_geti F ciX0 4 hq (by decide) rfl rfl m171 dX0_keep_33 ?_
  refine s_aload_n F dX0_keep_36 rfl 0 rfl ?_
  refine s_geti F ciX0 5 hq (by decide) rfl rfl m172 dX0_keep_37 ?_
  refine s_iadd F dX0_keep_40 ?_
  refine s_bipush F (v := 24) dX0_keep_41 (by decide) ?_
  refine s_leti2 (fun v_1 => ?_)
  refine s_iremN F dX0_keep_43 (by decide) ?_
  refine s_leti (fun v_2 => ?_)
  refine s_istore F (lv' := [(5, .int v_2), (0, .ref (gad g q)), (1, .int x1), (2, .int x2), (3, .int x3), (4, .int x4)]) dX0_keep_44 (by decide) rfl ?_
  refine s_aload_n F dX0_keep_46 rfl 1 rfl ?_
  have hw_3 := wf_ref F.2.2.2.2.2.2.1 hq 0 1 (.inr (0, 24)) rfl
  refine s_getr F ciX0 0 1 (.inr (0, 24)) hq (by decide) rfl rfl m167 dX0_keep_47 ?_
  refine s_iload F dX0_keep_50 0 rfl ?_
  refine s_iload_n F dX0_keep_52 rfl 2 rfl ?_
  refine s_iast F hw_3 dX0_keep_53 ?_
  refine s_letH (fun h_4 => ?_)
  refine s_aload_n F dX0_keep_54 rfl 1 rfl ?_
  have hw_5 := wf_ref F.2.2.2.2.2.2.1 hq 1 2 (.inr (0, 24)) rfl
  refine s_getr F ciX0 1 2 (.inr (0, 24)) hq (by decide) rfl rfl m168 dX0_keep_55 ?_
  refine s_iload F dX0_keep_58 0 rfl ?_
  refine s_iload_n F dX0_keep_60 rfl 3 rfl ?_
  refine s_iast F hw_5 dX0_keep_61 ?_
  refine s_letH (fun h_6 => ?_)
  refine s_aload_n F dX0_keep_62 rfl 1 rfl ?_
  have hw_7 := wf_ref F.2.2.2.2.2.2.1 hq 2 3 (.inr (0, 24)) rfl
  refine s_getr F ciX0 2 3 (.inr (0, 24)) hq (by decide) rfl rfl m169 dX0_keep_63 ?_
  refine s_iload F dX0_keep_66 0 rfl ?_
  refine s_iload_n F dX0_keep_68 rfl 4 rfl ?_
  refine s_iast F hw_7 dX0_keep_69 ?_
  refine s_letH (fun h_8 => ?_)
  refine s_aload_n F dX0_keep_70 rfl 1 rfl ?_
  have hw_9 := wf_ref F.2.2.2.2.2.2.1 hq 3 4 (.inr (0, 24)) rfl
  refine s_getr F ciX0 3 4 (.inr (0, 24)) hq (by decide) rfl rfl m170 dX0_keep_71 ?_
  refine s_iload F dX0_keep_74 0 rfl ?_
  refine s_iload F dX0_keep_76 5 rfl ?_
  refine s_iast F hw_9 dX0_keep_78 ?_
  refine s_letH (fun h_10 => ?_)
  refine s_aload_n F dX0_keep_79 rfl 1 rfl ?_
  refine s_dup F dX0_keep_80 rfl ?_
  refine s_geti F ciX0 5 hq (by decide) rfl rfl m172 dX0_keep_81 ?_
  refine s_iconst F (v := 1) dX0_keep_84 (by decide) ?_
  refine s_iadd F dX0_keep_85 ?_
  refine s_put F ciX0 (k := 5) hq (by decide) rfl rfl rfl rfl m172 dX0_keep_86 ?_
  refine s_letH (fun h_11 => ?_)
  exact s_vret F dX0_keep_89
noncomputable def f_X0_keep (q : Nat) (x1 : Int32) (x2 : Int32) (x3 : Int32) (x4 : Int32) (h : AH) : Option (Unit × AH) := if (h q 5) = 24 then (lt (((h q 4) + 1)) (fun v_1 => lt (hset h q 4 (v_1 - v_1 / 24 * 24)) (fun h_2 => lt (hset h_2 q 5 ((h_2 q 5) - 1)) (fun h_3 => f_X0_keep_32 q x1 x2 x3 x4 h_3)))) else (f_X0_keep_32 q x1 x2 x3 x4 h)
set_option maxRecDepth 20000 in
set_option maxHeartbeats 4000000 in
theorem ct_X0_keep (l : Launch) (g : GC) {q : Nat} (hq : (gL g)[q]? = some (.inl 0)) (x1 : Int32) (x2 : Int32) (x3 : Int32) (x4 : Int32) : Ct l yX0_keep cX0_keep 6 none 1 [.ref (gad g q), .int x1, .int x2, .int x3, .int x4] g mkU (fun h => f_X0_keep q x1 x2 x3 x4 h) := by
  refine Ct.of (by decide +kernel) (Nat.le_of_ble_eq_true rfl) (fun z A h _ F => ?_)
  show Snd z 6 g A (QF z g A mkU) 0 [(0, .ref (gad g q)), (1, .int x1), (2, .int x2), (3, .int x3), (4, .int x4)] [] h (f_X0_keep q x1 x2 x3 x4 h)
  unfold f_X0_keep
  refine s_aload_n F dX0_keep_0 rfl 0 rfl ?_
  refine s_geti F ciX0 5 hq (by decide) rfl rfl m172 dX0_keep_1 ?_
  refine s_bipush F (v := 24) dX0_keep_4 (by decide) ?_
  refine s_icmp_ne F 32 dX0_keep_6 (by decide) (fun _ => ?_) (fun _ => ?_)
  · exact s_sub [0, 1, 2, 3, 4] rfl (t_X0_keep_32 F hq x1 x2 x3 x4 h)
  · refine s_aload_n F dX0_keep_9 rfl 0 rfl ?_
    refine s_aload_n F dX0_keep_10 rfl 0 rfl ?_
    refine s_geti F ciX0 4 hq (by decide) rfl rfl m171 dX0_keep_11 ?_
    refine s_iconst F (v := 1) dX0_keep_14 (by decide) ?_
    refine s_iadd F dX0_keep_15 ?_
    refine s_bipush F (v := 24) dX0_keep_16 (by decide) ?_
    refine s_leti2 (fun v_1 => ?_)
    refine s_iremN F dX0_keep_18 (by decide) ?_
    refine s_put F ciX0 (k := 4) hq (by decide) rfl rfl rfl rfl m171 dX0_keep_19 ?_
    refine s_letH (fun h_2 => ?_)
    refine s_aload_n F dX0_keep_22 rfl 0 rfl ?_
    refine s_dup F dX0_keep_23 rfl ?_
    refine s_geti F ciX0 5 hq (by decide) rfl rfl m172 dX0_keep_24 ?_
    refine s_iconst F (v := 1) dX0_keep_27 (by decide) ?_
    refine s_isub F dX0_keep_28 ?_
    refine s_put F ciX0 (k := 5) hq (by decide) rfl rfl rfl rfl m172 dX0_keep_29 ?_
    refine s_letH (fun h_3 => ?_)
    exact s_sub [0, 1, 2, 3, 4] rfl (t_X0_keep_32 F hq x1 x2 x3 x4 h_3)
theorem dX0_takeBack_0 : decode cX0_takeBack 0 = .ok (.aload_n 0, 1) := by decide +kernel
theorem dX0_takeBack_1 : decode cX0_takeBack 1 = .ok (.getfield 22, 3) := by decide +kernel
theorem dX0_takeBack_4 : decode cX0_takeBack 4 = .ok (.ifCond .ne 4, 3) := by decide +kernel
theorem dX0_takeBack_7 : decode cX0_takeBack 7 = .ok (.return_, 1) := by decide +kernel
theorem dX0_takeBack_8 : decode cX0_takeBack 8 = .ok (.aload_n 0, 1) := by decide +kernel
theorem dX0_takeBack_9 : decode cX0_takeBack 9 = .ok (.dup, 1) := by decide +kernel
theorem dX0_takeBack_10 : decode cX0_takeBack 10 = .ok (.getfield 22, 3) := by decide +kernel
theorem dX0_takeBack_13 : decode cX0_takeBack 13 = .ok (.iconst 1, 1) := by decide +kernel
theorem dX0_takeBack_14 : decode cX0_takeBack 14 = .ok (.isub, 1) := by decide +kernel
theorem dX0_takeBack_15 : decode cX0_takeBack 15 = .ok (.putfield 22, 3) := by decide +kernel
theorem dX0_takeBack_18 : decode cX0_takeBack 18 = .ok (.aload_n 0, 1) := by decide +kernel
theorem dX0_takeBack_19 : decode cX0_takeBack 19 = .ok (.getfield 26, 3) := by decide +kernel
theorem dX0_takeBack_22 : decode cX0_takeBack 22 = .ok (.aload_n 0, 1) := by decide +kernel
theorem dX0_takeBack_23 : decode cX0_takeBack 23 = .ok (.getfield 22, 3) := by decide +kernel
theorem dX0_takeBack_26 : decode cX0_takeBack 26 = .ok (.iadd, 1) := by decide +kernel
theorem dX0_takeBack_27 : decode cX0_takeBack 27 = .ok (.bipush 24, 2) := by decide +kernel
theorem dX0_takeBack_29 : decode cX0_takeBack 29 = .ok (.irem, 1) := by decide +kernel
theorem dX0_takeBack_30 : decode cX0_takeBack 30 = .ok (.istore_n 2, 1) := by decide +kernel
theorem dX0_takeBack_31 : decode cX0_takeBack 31 = .ok (.aload_n 0, 1) := by decide +kernel
theorem dX0_takeBack_32 : decode cX0_takeBack 32 = .ok (.getfield 13, 3) := by decide +kernel
theorem dX0_takeBack_35 : decode cX0_takeBack 35 = .ok (.iload_n 2, 1) := by decide +kernel
theorem dX0_takeBack_36 : decode cX0_takeBack 36 = .ok (.iaload, 1) := by decide +kernel
theorem dX0_takeBack_37 : decode cX0_takeBack 37 = .ok (.istore_n 3, 1) := by decide +kernel
theorem dX0_takeBack_38 : decode cX0_takeBack 38 = .ok (.aload_n 0, 1) := by decide +kernel
theorem dX0_takeBack_39 : decode cX0_takeBack 39 = .ok (.getfield 16, 3) := by decide +kernel
theorem dX0_takeBack_42 : decode cX0_takeBack 42 = .ok (.iload_n 2, 1) := by decide +kernel
theorem dX0_takeBack_43 : decode cX0_takeBack 43 = .ok (.iaload, 1) := by decide +kernel
theorem dX0_takeBack_44 : decode cX0_takeBack 44 = .ok (.istore 4, 2) := by decide +kernel
theorem dX0_takeBack_46 : decode cX0_takeBack 46 = .ok (.aload_n 0, 1) := by decide +kernel
theorem dX0_takeBack_47 : decode cX0_takeBack 47 = .ok (.getfield 19, 3) := by decide +kernel
theorem dX0_takeBack_50 : decode cX0_takeBack 50 = .ok (.iload_n 2, 1) := by decide +kernel
theorem dX0_takeBack_51 : decode cX0_takeBack 51 = .ok (.iaload, 1) := by decide +kernel
theorem dX0_takeBack_52 : decode cX0_takeBack 52 = .ok (.istore 5, 2) := by decide +kernel
theorem dX0_takeBack_54 : decode cX0_takeBack 54 = .ok (.aload_n 0, 1) := by decide +kernel
theorem dX0_takeBack_55 : decode cX0_takeBack 55 = .ok (.getfield 9, 3) := by decide +kernel
theorem dX0_takeBack_58 : decode cX0_takeBack 58 = .ok (.iload_n 2, 1) := by decide +kernel
theorem dX0_takeBack_59 : decode cX0_takeBack 59 = .ok (.iaload, 1) := by decide +kernel
theorem dX0_takeBack_60 : decode cX0_takeBack 60 = .ok (.tableswitch 83 0 3 #[32, 44, 61, 73], 32) := by decide +kernel
theorem dX0_takeBack_92 : decode cX0_takeBack 92 = .ok (.aload_n 1, 1) := by decide +kernel
theorem dX0_takeBack_93 : decode cX0_takeBack 93 = .ok (.iload 4, 2) := by decide +kernel
theorem dX0_takeBack_95 : decode cX0_takeBack 95 = .ok (.iload_n 3, 1) := by decide +kernel
theorem dX0_takeBack_96 : decode cX0_takeBack 96 = .ok (.iload 5, 2) := by decide +kernel
theorem dX0_takeBack_98 : decode cX0_takeBack 98 = .ok (.invokevirtual 29, 3) := by decide +kernel
theorem dX0_takeBack_101 : decode cX0_takeBack 101 = .ok (.goto 52, 3) := by decide +kernel
theorem dX0_takeBack_104 : decode cX0_takeBack 104 = .ok (.aload_n 1, 1) := by decide +kernel
theorem dX0_takeBack_105 : decode cX0_takeBack 105 = .ok (.aload_n 1, 1) := by decide +kernel
theorem dX0_takeBack_106 : decode cX0_takeBack 106 = .ok (.getfield 35, 3) := by decide +kernel
theorem dX0_takeBack_109 : decode cX0_takeBack 109 = .ok (.iload_n 3, 1) := by decide +kernel
theorem dX0_takeBack_110 : decode cX0_takeBack 110 = .ok (.iload 4, 2) := by decide +kernel
theorem dX0_takeBack_112 : decode cX0_takeBack 112 = .ok (.invokestatic 38, 3) := by decide +kernel
theorem dX0_takeBack_115 : decode cX0_takeBack 115 = .ok (.putfield 35, 3) := by decide +kernel
theorem dX0_takeBack_118 : decode cX0_takeBack 118 = .ok (.goto 35, 3) := by decide +kernel
theorem dX0_takeBack_121 : decode cX0_takeBack 121 = .ok (.aload_n 1, 1) := by decide +kernel
theorem dX0_takeBack_122 : decode cX0_takeBack 122 = .ok (.iload_n 3, 1) := by decide +kernel
theorem dX0_takeBack_123 : decode cX0_takeBack 123 = .ok (.iload 4, 2) := by decide +kernel
theorem dX0_takeBack_125 : decode cX0_takeBack 125 = .ok (.iload 5, 2) := by decide +kernel
theorem dX0_takeBack_127 : decode cX0_takeBack 127 = .ok (.invokevirtual 44, 3) := by decide +kernel
theorem dX0_takeBack_130 : decode cX0_takeBack 130 = .ok (.goto 23, 3) := by decide +kernel
theorem dX0_takeBack_133 : decode cX0_takeBack 133 = .ok (.aload_n 1, 1) := by decide +kernel
theorem dX0_takeBack_134 : decode cX0_takeBack 134 = .ok (.iload_n 3, 1) := by decide +kernel
theorem dX0_takeBack_135 : decode cX0_takeBack 135 = .ok (.iload 4, 2) := by decide +kernel
theorem dX0_takeBack_137 : decode cX0_takeBack 137 = .ok (.invokevirtual 47, 3) := by decide +kernel
theorem dX0_takeBack_140 : decode cX0_takeBack 140 = .ok (.goto 13, 3) := by decide +kernel
theorem dX0_takeBack_143 : decode cX0_takeBack 143 = .ok (.aload_n 1, 1) := by decide +kernel
theorem dX0_takeBack_144 : decode cX0_takeBack 144 = .ok (.dup, 1) := by decide +kernel
theorem dX0_takeBack_145 : decode cX0_takeBack 145 = .ok (.getfield 51, 3) := by decide +kernel
theorem dX0_takeBack_148 : decode cX0_takeBack 148 = .ok (.iconst 1, 1) := by decide +kernel
theorem dX0_takeBack_149 : decode cX0_takeBack 149 = .ok (.isub, 1) := by decide +kernel
theorem dX0_takeBack_150 : decode cX0_takeBack 150 = .ok (.putfield 51, 3) := by decide +kernel
theorem dX0_takeBack_153 : decode cX0_takeBack 153 = .ok (.return_, 1) := by decide +kernel
theorem yv_X0_takeBack : YV yX0_takeBack cX0_takeBack 6 none 1 := ⟨m660, m661, m6, m662, ⟨by decide +kernel, by decide +kernel, by decide +kernel⟩, by decide⟩
noncomputable def f_X0_takeBack (q : Nat) (r1 : Nat) (h : AH) : Option (Unit × AH) := if (h q 5) = 0 then (some ((), h)) else (lt (hset h q 5 ((h q 5) - 1)) (fun h_1 => lt (((h_1 q 4) + (h_1 q 5))) (fun v_2 => lt ((v_2 - v_2 / 24 * 24)) (fun v_3 => ck v_3 24 (lt (h_1 (q + 2) (v_3 : Int32).toNatClampNeg) (fun v_5 => ck v_3 24 (lt (h_1 (q + 3) (v_3 : Int32).toNatClampNeg) (fun v_7 => ck v_3 24 (lt (h_1 (q + 4) (v_3 : Int32).toNatClampNeg) (fun v_9 => ck v_3 24 (lt (h_1 (q + 1) (v_3 : Int32).toNatClampNeg) (fun v_11 => if v_11 = 0 then (bd (f_X2_giveCharter r1 v_7 v_5 v_9 h_1) (fun _ h_12 => some ((), h_12))) else (if v_11 = 1 then (bd (f_X7_withBit (h_1 r1 5) v_5 v_7 h_1) (fun v_15 h_14 => lt (hset h_14 r1 5 v_15) (fun h_16 => some ((), h_16)))) else (if v_11 = 2 then (bd (f_X2_comeBack r1 v_5 v_7 v_9 h_1) (fun _ h_17 => some ((), h_17))) else (if v_11 = 3 then (bd (f_X2_joinLast r1 v_5 v_7 h_1) (fun _ h_19 => some ((), h_19))) else (lt (hset h_1 r1 3 ((h_1 r1 3) - 1)) (fun h_21 => some ((), h_21))))))))))))))))))
set_option maxRecDepth 20000 in
set_option maxHeartbeats 4000000 in
theorem ct_X0_takeBack (l : Launch) (g : GC) {q : Nat} (hq : (gL g)[q]? = some (.inl 0)) {r1 : Nat} (hr1 : (gL g)[r1]? = some (.inl 2)) : Ct l yX0_takeBack cX0_takeBack 6 none 4 [.ref (gad g q), .ref (gad g r1)] g mkU (fun h => f_X0_takeBack q r1 h) := by
  refine Ct.of (by decide +kernel) (Nat.le_of_ble_eq_true rfl) (fun z A h _ F => ?_)
  show Snd z 6 g A (QF z g A mkU) 0 [(0, .ref (gad g q)), (1, .ref (gad g r1))] [] h (f_X0_takeBack q r1 h)
  unfold f_X0_takeBack
  refine s_aload_n F dX0_takeBack_0 rfl 0 rfl ?_
  refine s_geti F ciX0 5 hq (by decide) rfl rfl m172 dX0_takeBack_1 ?_
  refine s_if_ne F 8 dX0_takeBack_4 (by decide) (fun _ => ?_) (fun _ => ?_)
  · refine s_aload_n F dX0_takeBack_8 rfl 0 rfl ?_
    refine s_dup F dX0_takeBack_9 rfl ?_
    refine s_geti F ciX0 5 hq (by decide) rfl rfl m172 dX0_takeBack_10 ?_
    refine s_iconst F (v := 1) dX0_takeBack_13 (by decide) ?_
    refine s_isub F dX0_takeBack_14 ?_
    refine s_put F ciX0 (k := 5) hq (by decide) rfl rfl rfl rfl m172 dX0_takeBack_15 ?_
    refine s_letH (fun h_1 => ?_)
    refine s_aload_n F dX0_takeBack_18 rfl 0 rfl ?_
    refine s_geti F ciX0 4 hq (by decide) rfl rfl m171 dX0_takeBack_19 ?_
    refine s_aload_n F dX0_takeBack_22 rfl 0 rfl ?_
    refine s_geti F ciX0 5 hq (by decide) rfl rfl m172 dX0_takeBack_23 ?_
    refine s_iadd F dX0_takeBack_26 ?_
    refine s_bipush F (v := 24) dX0_takeBack_27 (by decide) ?_
    refine s_leti2 (fun v_2 => ?_)
    refine s_iremN F dX0_takeBack_29 (by decide) ?_
    refine s_leti (fun v_3 => ?_)
    refine s_istore_n F (lv' := [(2, .int v_3), (0, .ref (gad g q)), (1, .ref (gad g r1))]) dX0_takeBack_30 rfl (by decide) rfl ?_
    refine s_aload_n F dX0_takeBack_31 rfl 1 rfl ?_
    have hw_4 := wf_ref F.2.2.2.2.2.2.1 hq 1 2 (.inr (0, 24)) rfl
    refine s_getr F ciX0 1 2 (.inr (0, 24)) hq (by decide) rfl rfl m168 dX0_takeBack_32 ?_
    refine s_iload_n F dX0_takeBack_35 rfl 0 rfl ?_
    refine s_iald F hw_4 dX0_takeBack_36 ?_
    refine s_leti (fun v_5 => ?_)
    refine s_istore_n F (lv' := [(3, .int v_5), (2, .int v_3), (0, .ref (gad g q)), (1, .ref (gad g r1))]) dX0_takeBack_37 rfl (by decide) rfl ?_
    refine s_aload_n F dX0_takeBack_38 rfl 2 rfl ?_
    have hw_6 := wf_ref F.2.2.2.2.2.2.1 hq 2 3 (.inr (0, 24)) rfl
    refine s_getr F ciX0 2 3 (.inr (0, 24)) hq (by decide) rfl rfl m169 dX0_takeBack_39 ?_
    refine s_iload_n F dX0_takeBack_42 rfl 1 rfl ?_
    refine s_iald F hw_6 dX0_takeBack_43 ?_
    refine s_leti (fun v_7 => ?_)
    refine s_istore F (lv' := [(4, .int v_7), (3, .int v_5), (2, .int v_3), (0, .ref (gad g q)), (1, .ref (gad g r1))]) dX0_takeBack_44 (by decide) rfl ?_
    refine s_aload_n F dX0_takeBack_46 rfl 3 rfl ?_
    have hw_8 := wf_ref F.2.2.2.2.2.2.1 hq 3 4 (.inr (0, 24)) rfl
    refine s_getr F ciX0 3 4 (.inr (0, 24)) hq (by decide) rfl rfl m170 dX0_takeBack_47 ?_
    refine s_iload_n F dX0_takeBack_50 rfl 2 rfl ?_
    refine s_iald F hw_8 dX0_takeBack_51 ?_
    refine s_leti (fun v_9 => ?_)
    refine s_istore F (lv' := [(5, .int v_9), (4, .int v_7), (3, .int v_5), (2, .int v_3), (0, .ref (gad g q)), (1, .ref (gad g r1))]) dX0_takeBack_52 (by decide) rfl ?_
    refine s_aload_n F dX0_takeBack_54 rfl 4 rfl ?_
    have hw_10 := wf_ref F.2.2.2.2.2.2.1 hq 0 1 (.inr (0, 24)) rfl
    refine s_getr F ciX0 0 1 (.inr (0, 24)) hq (by decide) rfl rfl m167 dX0_takeBack_55 ?_
    refine s_iload_n F dX0_takeBack_58 rfl 3 rfl ?_
    refine s_iald F hw_10 dX0_takeBack_59 ?_
    refine s_leti (fun v_11 => ?_)
    refine s_case 0 ?_ (fun n0 => ?_)
    · refine s_tabIn F (off := 32) 92 dX0_takeBack_60 (by decide) (by decide) rfl (by decide) ?_
      refine s_aload_n F dX0_takeBack_92 rfl 5 rfl ?_
      refine s_iload F dX0_takeBack_93 1 rfl ?_
      refine s_iload_n F dX0_takeBack_95 rfl 2 rfl ?_
      refine s_iload F dX0_takeBack_96 0 rfl ?_
      refine s_callVu (f := fun hh => f_X2_giveCharter r1 v_7 v_5 v_9 hh) (As := [.int v_7, .int v_5, .int v_9]) F yv_X2_giveCharter (ct_X2_giveCharter z.2.1 g hr1 v_7 v_5 v_9) (by decide) m663 hr1 rfl rfl rfl (Nat.le_of_ble_eq_true rfl) dX0_takeBack_98 (fun _ h_12 e_v_13 => ?_)
      refine s_goto F 153 dX0_takeBack_101 (by decide) ?_
      exact s_vret F dX0_takeBack_153
    refine s_case 1 ?_ (fun n1 => ?_)
    · refine s_tabIn F (off := 44) 104 dX0_takeBack_60 (by decide) (by decide) rfl (by decide) ?_
      refine s_aload_n F dX0_takeBack_104 rfl 5 rfl ?_
      refine s_aload_n F dX0_takeBack_105 rfl 5 rfl ?_
      refine s_getiN F ciX2 5 hr1 (by decide) rfl rfl (List.mem_of_getElem? (i := 11) rfl) dX0_takeBack_106 ?_
      refine s_iload_n F dX0_takeBack_109 rfl 2 rfl ?_
      refine s_iload F dX0_takeBack_110 1 rfl ?_
      refine s_callSNi (f := fun hh => f_X7_withBit (h_1 r1 5) v_5 v_7 hh) (As := [.int (h_1 r1 5), .int v_5, .int v_7]) F ys_X7_withBit (ct_X7_withBit z.2.1 g (h_1 r1 5) v_5 v_7) (by decide) (List.mem_of_getElem? (i := 0) rfl) rfl rfl (Nat.le_of_ble_eq_true rfl) dX0_takeBack_112 (fun v_15 h_14 e_v_15 => ?_)
      refine s_putN F ciX2 (k := 5) hr1 (by decide) rfl rfl rfl rfl (List.mem_of_getElem? (i := 11) rfl) dX0_takeBack_115 ?_
      refine s_letH (fun h_16 => ?_)
      refine s_goto F 153 dX0_takeBack_118 (by decide) ?_
      exact s_vret F dX0_takeBack_153
    refine s_case 2 ?_ (fun n2 => ?_)
    · refine s_tabIn F (off := 61) 121 dX0_takeBack_60 (by decide) (by decide) rfl (by decide) ?_
      refine s_aload_n F dX0_takeBack_121 rfl 5 rfl ?_
      refine s_iload_n F dX0_takeBack_122 rfl 2 rfl ?_
      refine s_iload F dX0_takeBack_123 1 rfl ?_
      refine s_iload F dX0_takeBack_125 0 rfl ?_
      refine s_callVu (f := fun hh => f_X2_comeBack r1 v_5 v_7 v_9 hh) (As := [.int v_5, .int v_7, .int v_9]) F yv_X2_comeBack (ct_X2_comeBack z.2.1 g hr1 v_5 v_7 v_9) (by decide) m665 hr1 rfl rfl rfl (Nat.le_of_ble_eq_true rfl) dX0_takeBack_127 (fun _ h_17 e_v_18 => ?_)
      refine s_goto F 153 dX0_takeBack_130 (by decide) ?_
      exact s_vret F dX0_takeBack_153
    refine s_case 3 ?_ (fun n3 => ?_)
    · refine s_tabIn F (off := 73) 133 dX0_takeBack_60 (by decide) (by decide) rfl (by decide) ?_
      refine s_aload_n F dX0_takeBack_133 rfl 5 rfl ?_
      refine s_iload_n F dX0_takeBack_134 rfl 2 rfl ?_
      refine s_iload F dX0_takeBack_135 1 rfl ?_
      refine s_callVu (f := fun hh => f_X2_joinLast r1 v_5 v_7 hh) (As := [.int v_5, .int v_7]) F yv_X2_joinLast (ct_X2_joinLast z.2.1 g hr1 v_5 v_7) (by decide) m669 hr1 rfl rfl rfl (Nat.le_of_ble_eq_true rfl) dX0_takeBack_137 (fun _ h_19 e_v_20 => ?_)
      refine s_goto F 153 dX0_takeBack_140 (by decide) ?_
      exact s_vret F dX0_takeBack_153
    refine s_tabOut F 143 dX0_takeBack_60 (by decide) (s_out 0 3 4 (by decide) (by decide) (by decide) (fun j hj => ?_)) ?_
    · rcases (show j = 0 ∨ j = 1 ∨ j = 2 ∨ j = 3 by omega) with rfl | rfl | rfl | rfl
      · exact n0
      · exact n1
      · exact n2
      · exact n3
    refine s_aload_n F dX0_takeBack_143 rfl 5 rfl ?_
    refine s_dup F dX0_takeBack_144 rfl ?_
    refine s_getiN F ciX2 3 hr1 (by decide) rfl rfl (List.mem_of_getElem? (i := 12) rfl) dX0_takeBack_145 ?_
    refine s_iconst F (v := 1) dX0_takeBack_148 (by decide) ?_
    refine s_isub F dX0_takeBack_149 ?_
    refine s_putN F ciX2 (k := 3) hr1 (by decide) rfl rfl rfl rfl (List.mem_of_getElem? (i := 12) rfl) dX0_takeBack_150 ?_
    refine s_letH (fun h_21 => ?_)
    exact s_vret F dX0_takeBack_153
  · exact s_vret F dX0_takeBack_7
theorem dX1_bodyFor_0 : decode cX1_bodyFor 0 = .ok (.iload_n 0, 1) := by decide +kernel
theorem dX1_bodyFor_1 : decode cX1_bodyFor 1 = .ok (.ifCond .ne 11, 3) := by decide +kernel
theorem dX1_bodyFor_4 : decode cX1_bodyFor 4 = .ok (.getstatic 33, 3) := by decide +kernel
theorem dX1_bodyFor_7 : decode cX1_bodyFor 7 = .ok (.iload_n 1, 1) := by decide +kernel
theorem dX1_bodyFor_8 : decode cX1_bodyFor 8 = .ok (.iaload, 1) := by decide +kernel
theorem dX1_bodyFor_9 : decode cX1_bodyFor 9 = .ok (.goto 8, 3) := by decide +kernel
theorem dX1_bodyFor_12 : decode cX1_bodyFor 12 = .ok (.getstatic 36, 3) := by decide +kernel
theorem dX1_bodyFor_15 : decode cX1_bodyFor 15 = .ok (.iload_n 1, 1) := by decide +kernel
theorem dX1_bodyFor_16 : decode cX1_bodyFor 16 = .ok (.iaload, 1) := by decide +kernel
theorem dX1_bodyFor_17 : decode cX1_bodyFor 17 = .ok (.ireturn, 1) := by decide +kernel
theorem ys_X1_bodyFor : YS yX1_bodyFor cX1_bodyFor 2 (some .int) 2 := ⟨m849, m8, m850, ⟨by decide +kernel, by decide +kernel, by decide +kernel⟩, by decide⟩
noncomputable def f_X1_bodyFor (x0 : Int32) (x1 : Int32) (h : AH) : Option (Int32 × AH) := if x0 = 0 then (ck x1 6 (some ((stv 2).getD (x1 : Int32).toNatClampNeg 0, h))) else (ck x1 6 (some ((stv 3).getD (x1 : Int32).toNatClampNeg 0, h)))
set_option maxRecDepth 20000 in
set_option maxHeartbeats 4000000 in
theorem ct_X1_bodyFor (l : Launch) (g : GC) (x0 : Int32) (x1 : Int32) : Ct l yX1_bodyFor cX1_bodyFor 2 (some .int) 1 [.int x0, .int x1] g mkI (fun h => f_X1_bodyFor x0 x1 h) := by
  refine Ct.of (by decide +kernel) (Nat.le_of_ble_eq_true rfl) (fun z A h _ F => ?_)
  show Snd z 2 g A (QF z g A mkI) 0 [(0, .int x0), (1, .int x1)] [] h (f_X1_bodyFor x0 x1 h)
  unfold f_X1_bodyFor
  refine s_iload_n F dX1_bodyFor_0 rfl 0 rfl ?_
  refine s_if_ne F 12 dX1_bodyFor_1 (by decide) (fun _ => ?_) (fun _ => ?_)
  · refine s_gets F 3 (by decide) rfl rfl m853 dX1_bodyFor_12 ?_
    refine s_iload_n F dX1_bodyFor_15 rfl 1 rfl ?_
    refine s_tld F 3 (by decide) rfl dX1_bodyFor_16 ?_
    exact s_iret F dX1_bodyFor_17
  · refine s_gets F 2 (by decide) rfl rfl m851 dX1_bodyFor_4 ?_
    refine s_iload_n F dX1_bodyFor_7 rfl 1 rfl ?_
    refine s_tld F 2 (by decide) rfl dX1_bodyFor_8 ?_
    refine s_goto F 17 dX1_bodyFor_9 (by decide) ?_
    exact s_iret F dX1_bodyFor_17
theorem dX1_leaveTrace_0 : decode cX1_leaveTrace 0 = .ok (.aload_n 0, 1) := by decide +kernel
theorem dX1_leaveTrace_1 : decode cX1_leaveTrace 1 = .ok (.getfield 15, 3) := by decide +kernel
theorem dX1_leaveTrace_4 : decode cX1_leaveTrace 4 = .ok (.bipush 16, 2) := by decide +kernel
theorem dX1_leaveTrace_6 : decode cX1_leaveTrace 6 = .ok (.if_icmp .ge 23, 3) := by decide +kernel
theorem dX1_leaveTrace_9 : decode cX1_leaveTrace 9 = .ok (.aload_n 0, 1) := by decide +kernel
theorem dX1_leaveTrace_10 : decode cX1_leaveTrace 10 = .ok (.getfield 11, 3) := by decide +kernel
theorem dX1_leaveTrace_13 : decode cX1_leaveTrace 13 = .ok (.aload_n 0, 1) := by decide +kernel
theorem dX1_leaveTrace_14 : decode cX1_leaveTrace 14 = .ok (.getfield 15, 3) := by decide +kernel
theorem dX1_leaveTrace_17 : decode cX1_leaveTrace 17 = .ok (.iload_n 1, 1) := by decide +kernel
theorem dX1_leaveTrace_18 : decode cX1_leaveTrace 18 = .ok (.iastore, 1) := by decide +kernel
theorem dX1_leaveTrace_19 : decode cX1_leaveTrace 19 = .ok (.aload_n 0, 1) := by decide +kernel
theorem dX1_leaveTrace_20 : decode cX1_leaveTrace 20 = .ok (.dup, 1) := by decide +kernel
theorem dX1_leaveTrace_21 : decode cX1_leaveTrace 21 = .ok (.getfield 15, 3) := by decide +kernel
theorem dX1_leaveTrace_24 : decode cX1_leaveTrace 24 = .ok (.iconst 1, 1) := by decide +kernel
theorem dX1_leaveTrace_25 : decode cX1_leaveTrace 25 = .ok (.iadd, 1) := by decide +kernel
theorem dX1_leaveTrace_26 : decode cX1_leaveTrace 26 = .ok (.putfield 15, 3) := by decide +kernel
theorem dX1_leaveTrace_29 : decode cX1_leaveTrace 29 = .ok (.return_, 1) := by decide +kernel
theorem yv_X1_leaveTrace : YV yX1_leaveTrace cX1_leaveTrace 2 none 1 := ⟨m861, ms28, m8, m862, ⟨by decide +kernel, by decide +kernel, by decide +kernel⟩, by decide⟩
noncomputable def f_X1_leaveTrace (q : Nat) (x1 : Int32) (h : AH) : Option (Unit × AH) := if (16 : Int32) ≤ (h q 1) then (some ((), h)) else (lt (h q 1) (fun v_2 => ck v_2 16 (lt (hset h (q + 1) (v_2 : Int32).toNatClampNeg x1) (fun h_3 => lt (hset h_3 q 1 ((h_3 q 1) + 1)) (fun h_4 => some ((), h_4))))))
set_option maxRecDepth 20000 in
set_option maxHeartbeats 4000000 in
theorem ct_X1_leaveTrace (l : Launch) (g : GC) {q : Nat} (hq : (gL g)[q]? = some (.inl 1)) (x1 : Int32) : Ct l yX1_leaveTrace cX1_leaveTrace 2 none 1 [.ref (gad g q), .int x1] g mkU (fun h => f_X1_leaveTrace q x1 h) := by
  refine Ct.of (by decide +kernel) (Nat.le_of_ble_eq_true rfl) (fun z A h _ F => ?_)
  show Snd z 2 g A (QF z g A mkU) 0 [(0, .ref (gad g q)), (1, .int x1)] [] h (f_X1_leaveTrace q x1 h)
  unfold f_X1_leaveTrace
  refine s_aload_n F dX1_leaveTrace_0 rfl 0 rfl ?_
  refine s_geti F ciX1 1 hq (by decide) rfl rfl m233 dX1_leaveTrace_1 ?_
  refine s_bipush F (v := 16) dX1_leaveTrace_4 (by decide) ?_
  refine s_icmp_ge F 29 dX1_leaveTrace_6 (by decide) (fun _ => ?_) (fun _ => ?_)
  · exact s_vret F dX1_leaveTrace_29
  · refine s_aload_n F dX1_leaveTrace_9 rfl 0 rfl ?_
    have hw_1 := wf_ref F.2.2.2.2.2.2.1 hq 0 1 (.inr (0, 16)) rfl
    refine s_getr F ciX1 0 1 (.inr (0, 16)) hq (by decide) rfl rfl m232 dX1_leaveTrace_10 ?_
    refine s_aload_n F dX1_leaveTrace_13 rfl 0 rfl ?_
    refine s_geti F ciX1 1 hq (by decide) rfl rfl m233 dX1_leaveTrace_14 ?_
    refine s_iload_n F dX1_leaveTrace_17 rfl 1 rfl ?_
    refine s_leti2 (fun v_2 => ?_)
    refine s_iast F hw_1 dX1_leaveTrace_18 ?_
    refine s_letH (fun h_3 => ?_)
    refine s_aload_n F dX1_leaveTrace_19 rfl 0 rfl ?_
    refine s_dup F dX1_leaveTrace_20 rfl ?_
    refine s_geti F ciX1 1 hq (by decide) rfl rfl m233 dX1_leaveTrace_21 ?_
    refine s_iconst F (v := 1) dX1_leaveTrace_24 (by decide) ?_
    refine s_iadd F dX1_leaveTrace_25 ?_
    refine s_put F ciX1 (k := 1) hq (by decide) rfl rfl rfl rfl m233 dX1_leaveTrace_26 ?_
    refine s_letH (fun h_4 => ?_)
    exact s_vret F dX1_leaveTrace_29
theorem dX1_gives_0 : decode cX1_gives 0 = .ok (.iload 4, 2) := by decide +kernel
theorem dX1_gives_2 : decode cX1_gives 2 = .ok (.bipush 12, 2) := by decide +kernel
theorem dX1_gives_4 : decode cX1_gives 4 = .ok (.if_icmp .le 5, 3) := by decide +kernel
theorem dX1_gives_7 : decode cX1_gives 7 = .ok (.iconst 0, 1) := by decide +kernel
theorem dX1_gives_8 : decode cX1_gives 8 = .ok (.ireturn, 1) := by decide +kernel
theorem dX1_gives_9 : decode cX1_gives 9 = .ok (.aload_n 0, 1) := by decide +kernel
theorem dX1_gives_10 : decode cX1_gives 10 = .ok (.iload_n 1, 1) := by decide +kernel
theorem dX1_gives_11 : decode cX1_gives 11 = .ok (.invokevirtual 39, 3) := by decide +kernel
theorem dX1_gives_14 : decode cX1_gives 14 = .ok (.iload 4, 2) := by decide +kernel
theorem dX1_gives_16 : decode cX1_gives 16 = .ok (.iconst 1, 1) := by decide +kernel
theorem dX1_gives_17 : decode cX1_gives 17 = .ok (.iadd, 1) := by decide +kernel
theorem dX1_gives_18 : decode cX1_gives 18 = .ok (.istore 5, 2) := by decide +kernel
theorem dX1_gives_20 : decode cX1_gives 20 = .ok (.aload_n 2, 1) := by decide +kernel
theorem dX1_gives_21 : decode cX1_gives 21 = .ok (.getfield 19, 3) := by decide +kernel
theorem dX1_gives_24 : decode cX1_gives 24 = .ok (.iload_n 3, 1) := by decide +kernel
theorem dX1_gives_25 : decode cX1_gives 25 = .ok (.iaload, 1) := by decide +kernel
theorem dX1_gives_26 : decode cX1_gives 26 = .ok (.istore 6, 2) := by decide +kernel
theorem dX1_gives_28 : decode cX1_gives 28 = .ok (.iload_n 1, 1) := by decide +kernel
theorem dX1_gives_29 : decode cX1_gives 29 = .ok (.tableswitch 221 10 24 #[75, 81, 107, 120, 134, 221, 221, 221, 221, 221, 147, 149, 167, 182, 208], 75) := by decide +kernel
theorem dX1_gives_104 : decode cX1_gives 104 = .ok (.aload_n 2, 1) := by decide +kernel
theorem dX1_gives_105 : decode cX1_gives 105 = .ok (.iload_n 3, 1) := by decide +kernel
theorem dX1_gives_106 : decode cX1_gives 106 = .ok (.invokevirtual 43, 3) := by decide +kernel
theorem dX1_gives_109 : decode cX1_gives 109 = .ok (.ireturn, 1) := by decide +kernel
theorem dX1_gives_110 : decode cX1_gives 110 = .ok (.aload_n 0, 1) := by decide +kernel
theorem dX1_gives_111 : decode cX1_gives 111 = .ok (.bipush 10, 2) := by decide +kernel
theorem dX1_gives_113 : decode cX1_gives 113 = .ok (.aload_n 2, 1) := by decide +kernel
theorem dX1_gives_114 : decode cX1_gives 114 = .ok (.iload_n 3, 1) := by decide +kernel
theorem dX1_gives_115 : decode cX1_gives 115 = .ok (.iload 5, 2) := by decide +kernel
theorem dX1_gives_117 : decode cX1_gives 117 = .ok (.invokevirtual 28, 3) := by decide +kernel
theorem dX1_gives_120 : decode cX1_gives 120 = .ok (.aload_n 0, 1) := by decide +kernel
theorem dX1_gives_121 : decode cX1_gives 121 = .ok (.iconst 1, 1) := by decide +kernel
theorem dX1_gives_122 : decode cX1_gives 122 = .ok (.iload 6, 2) := by decide +kernel
theorem dX1_gives_124 : decode cX1_gives 124 = .ok (.invokestatic 24, 3) := by decide +kernel
theorem dX1_gives_127 : decode cX1_gives 127 = .ok (.aload_n 2, 1) := by decide +kernel
theorem dX1_gives_128 : decode cX1_gives 128 = .ok (.iload_n 3, 1) := by decide +kernel
theorem dX1_gives_129 : decode cX1_gives 129 = .ok (.iload 5, 2) := by decide +kernel
theorem dX1_gives_131 : decode cX1_gives 131 = .ok (.invokevirtual 28, 3) := by decide +kernel
theorem dX1_gives_134 : decode cX1_gives 134 = .ok (.iadd, 1) := by decide +kernel
theorem dX1_gives_135 : decode cX1_gives 135 = .ok (.ireturn, 1) := by decide +kernel
theorem dX1_gives_136 : decode cX1_gives 136 = .ok (.iconst 0, 1) := by decide +kernel
theorem dX1_gives_137 : decode cX1_gives 137 = .ok (.aload_n 0, 1) := by decide +kernel
theorem dX1_gives_138 : decode cX1_gives 138 = .ok (.bipush 11, 2) := by decide +kernel
theorem dX1_gives_140 : decode cX1_gives 140 = .ok (.aload_n 2, 1) := by decide +kernel
theorem dX1_gives_141 : decode cX1_gives 141 = .ok (.iload_n 3, 1) := by decide +kernel
theorem dX1_gives_142 : decode cX1_gives 142 = .ok (.iload 5, 2) := by decide +kernel
theorem dX1_gives_144 : decode cX1_gives 144 = .ok (.invokevirtual 28, 3) := by decide +kernel
theorem dX1_gives_147 : decode cX1_gives 147 = .ok (.isub, 1) := by decide +kernel
theorem dX1_gives_148 : decode cX1_gives 148 = .ok (.ireturn, 1) := by decide +kernel
theorem dX1_gives_149 : decode cX1_gives 149 = .ok (.aload_n 0, 1) := by decide +kernel
theorem dX1_gives_150 : decode cX1_gives 150 = .ok (.bipush 10, 2) := by decide +kernel
theorem dX1_gives_152 : decode cX1_gives 152 = .ok (.aload_n 2, 1) := by decide +kernel
theorem dX1_gives_153 : decode cX1_gives 153 = .ok (.iload_n 3, 1) := by decide +kernel
theorem dX1_gives_154 : decode cX1_gives 154 = .ok (.iload 5, 2) := by decide +kernel
theorem dX1_gives_156 : decode cX1_gives 156 = .ok (.invokevirtual 28, 3) := by decide +kernel
theorem dX1_gives_159 : decode cX1_gives 159 = .ok (.bipush 100, 2) := by decide +kernel
theorem dX1_gives_161 : decode cX1_gives 161 = .ok (.isub, 1) := by decide +kernel
theorem dX1_gives_162 : decode cX1_gives 162 = .ok (.ireturn, 1) := by decide +kernel
theorem dX1_gives_163 : decode cX1_gives 163 = .ok (.iconst 2, 1) := by decide +kernel
theorem dX1_gives_164 : decode cX1_gives 164 = .ok (.aload_n 0, 1) := by decide +kernel
theorem dX1_gives_165 : decode cX1_gives 165 = .ok (.bipush 13, 2) := by decide +kernel
theorem dX1_gives_167 : decode cX1_gives 167 = .ok (.aload_n 2, 1) := by decide +kernel
theorem dX1_gives_168 : decode cX1_gives 168 = .ok (.iload_n 3, 1) := by decide +kernel
theorem dX1_gives_169 : decode cX1_gives 169 = .ok (.iload 5, 2) := by decide +kernel
theorem dX1_gives_171 : decode cX1_gives 171 = .ok (.invokevirtual 28, 3) := by decide +kernel
theorem dX1_gives_174 : decode cX1_gives 174 = .ok (.imul, 1) := by decide +kernel
theorem dX1_gives_175 : decode cX1_gives 175 = .ok (.ireturn, 1) := by decide +kernel
theorem dX1_gives_176 : decode cX1_gives 176 = .ok (.iload_n 3, 1) := by decide +kernel
theorem dX1_gives_177 : decode cX1_gives 177 = .ok (.ireturn, 1) := by decide +kernel
theorem dX1_gives_178 : decode cX1_gives 178 = .ok (.aload_n 0, 1) := by decide +kernel
theorem dX1_gives_179 : decode cX1_gives 179 = .ok (.bipush 20, 2) := by decide +kernel
theorem dX1_gives_181 : decode cX1_gives 181 = .ok (.aload_n 2, 1) := by decide +kernel
theorem dX1_gives_182 : decode cX1_gives 182 = .ok (.iload_n 3, 1) := by decide +kernel
theorem dX1_gives_183 : decode cX1_gives 183 = .ok (.iload 5, 2) := by decide +kernel
theorem dX1_gives_185 : decode cX1_gives 185 = .ok (.invokevirtual 28, 3) := by decide +kernel
theorem dX1_gives_188 : decode cX1_gives 188 = .ok (.aload_n 2, 1) := by decide +kernel
theorem dX1_gives_189 : decode cX1_gives 189 = .ok (.getfield 47, 3) := by decide +kernel
theorem dX1_gives_192 : decode cX1_gives 192 = .ok (.iload_n 3, 1) := by decide +kernel
theorem dX1_gives_193 : decode cX1_gives 193 = .ok (.iaload, 1) := by decide +kernel
theorem dX1_gives_194 : decode cX1_gives 194 = .ok (.iadd, 1) := by decide +kernel
theorem dX1_gives_195 : decode cX1_gives 195 = .ok (.ireturn, 1) := by decide +kernel
theorem dX1_gives_196 : decode cX1_gives 196 = .ok (.aload_n 0, 1) := by decide +kernel
theorem dX1_gives_197 : decode cX1_gives 197 = .ok (.bipush 21, 2) := by decide +kernel
theorem dX1_gives_199 : decode cX1_gives 199 = .ok (.aload_n 2, 1) := by decide +kernel
theorem dX1_gives_200 : decode cX1_gives 200 = .ok (.iload_n 3, 1) := by decide +kernel
theorem dX1_gives_201 : decode cX1_gives 201 = .ok (.iload 5, 2) := by decide +kernel
theorem dX1_gives_203 : decode cX1_gives 203 = .ok (.invokevirtual 28, 3) := by decide +kernel
theorem dX1_gives_206 : decode cX1_gives 206 = .ok (.sipush 1000, 3) := by decide +kernel
theorem dX1_gives_209 : decode cX1_gives 209 = .ok (.isub, 1) := by decide +kernel
theorem dX1_gives_210 : decode cX1_gives 210 = .ok (.ireturn, 1) := by decide +kernel
theorem dX1_gives_211 : decode cX1_gives 211 = .ok (.aload_n 0, 1) := by decide +kernel
theorem dX1_gives_212 : decode cX1_gives 212 = .ok (.bipush 20, 2) := by decide +kernel
theorem dX1_gives_214 : decode cX1_gives 214 = .ok (.aload_n 2, 1) := by decide +kernel
theorem dX1_gives_215 : decode cX1_gives 215 = .ok (.iload_n 3, 1) := by decide +kernel
theorem dX1_gives_216 : decode cX1_gives 216 = .ok (.iload 5, 2) := by decide +kernel
theorem dX1_gives_218 : decode cX1_gives 218 = .ok (.invokevirtual 28, 3) := by decide +kernel
theorem dX1_gives_221 : decode cX1_gives 221 = .ok (.aload_n 0, 1) := by decide +kernel
theorem dX1_gives_222 : decode cX1_gives 222 = .ok (.iconst 0, 1) := by decide +kernel
theorem dX1_gives_223 : decode cX1_gives 223 = .ok (.iload 6, 2) := by decide +kernel
theorem dX1_gives_225 : decode cX1_gives 225 = .ok (.invokestatic 24, 3) := by decide +kernel
theorem dX1_gives_228 : decode cX1_gives 228 = .ok (.aload_n 2, 1) := by decide +kernel
theorem dX1_gives_229 : decode cX1_gives 229 = .ok (.iload_n 3, 1) := by decide +kernel
theorem dX1_gives_230 : decode cX1_gives 230 = .ok (.iload 5, 2) := by decide +kernel
theorem dX1_gives_232 : decode cX1_gives 232 = .ok (.invokevirtual 28, 3) := by decide +kernel
theorem dX1_gives_235 : decode cX1_gives 235 = .ok (.isub, 1) := by decide +kernel
theorem dX1_gives_236 : decode cX1_gives 236 = .ok (.ireturn, 1) := by decide +kernel
theorem dX1_gives_237 : decode cX1_gives 237 = .ok (.iconst 2, 1) := by decide +kernel
theorem dX1_gives_238 : decode cX1_gives 238 = .ok (.aload_n 0, 1) := by decide +kernel
theorem dX1_gives_239 : decode cX1_gives 239 = .ok (.bipush 21, 2) := by decide +kernel
theorem dX1_gives_241 : decode cX1_gives 241 = .ok (.aload_n 2, 1) := by decide +kernel
theorem dX1_gives_242 : decode cX1_gives 242 = .ok (.iload_n 3, 1) := by decide +kernel
theorem dX1_gives_243 : decode cX1_gives 243 = .ok (.iload 5, 2) := by decide +kernel
theorem dX1_gives_245 : decode cX1_gives 245 = .ok (.invokevirtual 28, 3) := by decide +kernel
theorem dX1_gives_248 : decode cX1_gives 248 = .ok (.imul, 1) := by decide +kernel
theorem dX1_gives_249 : decode cX1_gives 249 = .ok (.ireturn, 1) := by decide +kernel
theorem dX1_gives_250 : decode cX1_gives 250 = .ok (.iconst 0, 1) := by decide +kernel
theorem dX1_gives_251 : decode cX1_gives 251 = .ok (.ireturn, 1) := by decide +kernel
theorem yv_X1_gives : YV yX1_gives cX1_gives 7 (some .int) 4 := ⟨m857, ms27, m8, m858, ⟨by decide +kernel, by decide +kernel, by decide +kernel⟩, by decide⟩
noncomputable def f_X1_gives_b (rc : Nat → Int32 → Nat → Int32 → Int32 → AH → Option (Int32 × AH)) (q : Nat) (x1 : Int32) (r2 : Nat) (x3 : Int32) (x4 : Int32) (h : AH) : Option (Int32 × AH) := if x4 ≤ 12 then (bd (f_X1_leaveTrace q x1 h) (fun _ h_1 => lt ((x4 + 1)) (fun v_3 => ck x3 6 (lt (h_1 (r2 + 5) (x3 : Int32).toNatClampNeg) (fun v_5 => if x1 = 10 then (bd (f_X2_allOf r2 x3 h_1) (fun v_7 h_6 => some (v_7, h_6))) else (if x1 = 11 then (bd (rc q 10 r2 x3 v_3 h_1) (fun v_9 h_8 => bd (f_X1_bodyFor 1 v_5 h_8) (fun v_11 h_10 => bd (rc q v_11 r2 x3 v_3 h_10) (fun v_13 h_12 => some ((v_9 + v_13), h_12))))) else (if x1 = 12 then (bd (rc q 11 r2 x3 v_3 h_1) (fun v_15 h_14 => some ((0 - v_15), h_14))) else (if x1 = 13 then (bd (rc q 10 r2 x3 v_3 h_1) (fun v_17 h_16 => some ((v_17 - 100), h_16))) else (if x1 = 14 then (bd (rc q 13 r2 x3 v_3 h_1) (fun v_19 h_18 => some ((2 * v_19), h_18))) else (if x1 = 15 then (some (0, h_1)) else (if x1 = 16 then (some (0, h_1)) else (if x1 = 17 then (some (0, h_1)) else (if x1 = 18 then (some (0, h_1)) else (if x1 = 19 then (some (0, h_1)) else (if x1 = 20 then (some (x3, h_1)) else (if x1 = 21 then (bd (rc q 20 r2 x3 v_3 h_1) (fun v_21 h_20 => ck x3 6 (some ((v_21 + (h_20 (r2 + 6) (x3 : Int32).toNatClampNeg)), h_20)))) else (if x1 = 22 then (bd (rc q 21 r2 x3 v_3 h_1) (fun v_24 h_23 => some ((v_24 - 1000), h_23))) else (if x1 = 23 then (bd (rc q 20 r2 x3 v_3 h_1) (fun v_26 h_25 => bd (f_X1_bodyFor 0 v_5 h_25) (fun v_28 h_27 => bd (rc q v_28 r2 x3 v_3 h_27) (fun v_30 h_29 => some ((v_26 - v_30), h_29))))) else (if x1 = 24 then (bd (rc q 21 r2 x3 v_3 h_1) (fun v_32 h_31 => some ((2 * v_32), h_31))) else (some (0, h_1))))))))))))))))))))) else (some (0, h))
noncomputable def f_X1_gives : Nat → Nat → Int32 → Nat → Int32 → Int32 → AH → Option (Int32 × AH)
  | 0, _, _, _, _, _, _ => none
  | n + 1, q, x1, r2, x3, x4, h => f_X1_gives_b (f_X1_gives n) q x1 r2 x3 x4 h
set_option maxRecDepth 20000 in
set_option maxHeartbeats 4000000 in
theorem ct_X1_gives (l : Launch) (g : GC) : ∀ (n : Nat) {q : Nat} (hq : (gL g)[q]? = some (.inl 1)) (x1 : Int32) {r2 : Nat} (hr2 : (gL g)[r2]? = some (.inl 2)) (x3 : Int32) (x4 : Int32), Ct l yX1_gives cX1_gives 7 (some .int) (4 + n) [.ref (gad g q), .int x1, .ref (gad g r2), .int x3, .int x4] g mkI (fun h => f_X1_gives n q x1 r2 x3 x4 h) := by
  intro n
  induction n with
  | zero => intros; intro h a ha; cases ha
  | succ n ih =>
    intros
    rename_i q hq x1 r2 hr2 x3 x4
    refine Ct.of (by decide +kernel) (Nat.le_of_ble_eq_true rfl) (fun z A h hzl F => ?_)
    subst hzl
    have hlv0 : 4 ≤ 4 + n := Nat.le_add_right _ _
    have hrc := @ih
    show Snd z 7 g A (QF z g A mkI) 0 [(0, .ref (gad g q)), (1, .int x1), (2, .ref (gad g r2)), (3, .int x3), (4, .int x4)] [] h (f_X1_gives_b (f_X1_gives n) q x1 r2 x3 x4 h)
    generalize f_X1_gives n = rc at hrc ⊢
    unfold f_X1_gives_b
    refine s_iload F dX1_gives_0 4 rfl ?_
    refine s_bipush F (v := 12) dX1_gives_2 (by decide) ?_
    refine s_icmp_le F 9 dX1_gives_4 (by decide) (fun _ => ?_) (fun _ => ?_)
    · refine s_aload_n F dX1_gives_9 rfl 0 rfl ?_
      refine s_iload_n F dX1_gives_10 rfl 1 rfl ?_
      refine s_callVu (f := fun hh => f_X1_leaveTrace q x1 hh) (As := [.int x1]) F yv_X1_leaveTrace (ct_X1_leaveTrace z.2.1 g hq x1) (by omega) m859 hq rfl rfl rfl (Nat.le_of_ble_eq_true rfl) dX1_gives_11 (fun _ h_1 e_v_2 => ?_)
      refine s_iload F dX1_gives_14 4 rfl ?_
      refine s_iconst F (v := 1) dX1_gives_16 (by decide) ?_
      refine s_iadd F dX1_gives_17 ?_
      refine s_leti (fun v_3 => ?_)
      refine s_istore F (lv' := [(5, .int v_3), (0, .ref (gad g q)), (1, .int x1), (2, .ref (gad g r2)), (3, .int x3), (4, .int x4)]) dX1_gives_18 (by decide) rfl ?_
      refine s_aload_n F dX1_gives_20 rfl 3 rfl ?_
      have hw_4 := wf_ref F.2.2.2.2.2.2.1 hr2 11 5 (.inr (0, 6)) rfl
      refine s_getrN F ciX2 11 5 (.inr (0, 6)) hr2 (by decide) rfl rfl (List.mem_of_getElem? (i := 13) rfl) dX1_gives_21 ?_
      refine s_iload_n F dX1_gives_24 rfl 4 rfl ?_
      refine s_iald F hw_4 dX1_gives_25 ?_
      refine s_leti (fun v_5 => ?_)
      refine s_istore F (lv' := [(6, .int v_5), (5, .int v_3), (0, .ref (gad g q)), (1, .int x1), (2, .ref (gad g r2)), (3, .int x3), (4, .int x4)]) dX1_gives_26 (by decide) rfl ?_
      refine s_iload_n F dX1_gives_28 rfl 3 rfl ?_
      refine s_case 10 ?_ (fun n10 => ?_)
      · refine s_tabIn F (off := 75) 104 dX1_gives_29 (by decide) (by decide) rfl (by decide) ?_
        refine s_aload_n F dX1_gives_104 rfl 4 rfl ?_
        refine s_iload_n F dX1_gives_105 rfl 5 rfl ?_
        refine s_callVi (f := fun hh => f_X2_allOf r2 x3 hh) (As := [.int x3]) F yv_X2_allOf (ct_X2_allOf z.2.1 g hr2 x3) (by omega) m863 hr2 rfl rfl rfl (Nat.le_of_ble_eq_true rfl) dX1_gives_106 (fun v_7 h_6 e_v_7 => ?_)
        exact s_iret F dX1_gives_109
      refine s_case 11 ?_ (fun n11 => ?_)
      · refine s_tabIn F (off := 81) 110 dX1_gives_29 (by decide) (by decide) rfl (by decide) ?_
        refine s_aload_n F dX1_gives_110 rfl 2 rfl ?_
        refine s_bipush F (v := 10) dX1_gives_111 (by decide) ?_
        refine s_aload_n F dX1_gives_113 rfl 4 rfl ?_
        refine s_iload_n F dX1_gives_114 rfl 5 rfl ?_
        refine s_iload F dX1_gives_115 1 rfl ?_
        refine s_callVi (f := fun hh => rc q 10 r2 x3 v_3 hh) (As := [.int 10, .ref (gad g r2), .int x3, .int v_3]) F yv_X1_gives (hrc hq 10 hr2 x3 v_3) (Nat.le_refl _) m855 hq rfl rfl rfl (Nat.le_of_ble_eq_true rfl) dX1_gives_117 (fun v_9 h_8 e_v_9 => ?_)
        refine s_aload_n F dX1_gives_120 rfl 2 rfl ?_
        refine s_iconst F (v := 1) dX1_gives_121 (by decide) ?_
        refine s_iload F dX1_gives_122 0 rfl ?_
        refine s_callSi (f := fun hh => f_X1_bodyFor 1 v_5 hh) (As := [.int 1, .int v_5]) F ys_X1_bodyFor (ct_X1_bodyFor z.2.1 g 1 v_5) (by omega) m848 rfl rfl (Nat.le_of_ble_eq_true rfl) dX1_gives_124 (fun v_11 h_10 e_v_11 => ?_)
        refine s_aload_n F dX1_gives_127 rfl 4 rfl ?_
        refine s_iload_n F dX1_gives_128 rfl 5 rfl ?_
        refine s_iload F dX1_gives_129 1 rfl ?_
        refine s_callVi (f := fun hh => rc q v_11 r2 x3 v_3 hh) (As := [.int v_11, .ref (gad g r2), .int x3, .int v_3]) F yv_X1_gives (hrc hq v_11 hr2 x3 v_3) (Nat.le_refl _) m855 hq rfl rfl rfl (Nat.le_of_ble_eq_true rfl) dX1_gives_131 (fun v_13 h_12 e_v_13 => ?_)
        refine s_iadd F dX1_gives_134 ?_
        exact s_iret F dX1_gives_135
      refine s_case 12 ?_ (fun n12 => ?_)
      · refine s_tabIn F (off := 107) 136 dX1_gives_29 (by decide) (by decide) rfl (by decide) ?_
        refine s_iconst F (v := 0) dX1_gives_136 (by decide) ?_
        refine s_aload_n F dX1_gives_137 rfl 2 rfl ?_
        refine s_bipush F (v := 11) dX1_gives_138 (by decide) ?_
        refine s_aload_n F dX1_gives_140 rfl 4 rfl ?_
        refine s_iload_n F dX1_gives_141 rfl 5 rfl ?_
        refine s_iload F dX1_gives_142 1 rfl ?_
        refine s_callVi (f := fun hh => rc q 11 r2 x3 v_3 hh) (As := [.int 11, .ref (gad g r2), .int x3, .int v_3]) F yv_X1_gives (hrc hq 11 hr2 x3 v_3) (Nat.le_refl _) m855 hq rfl rfl rfl (Nat.le_of_ble_eq_true rfl) dX1_gives_144 (fun v_15 h_14 e_v_15 => ?_)
        refine s_isub F dX1_gives_147 ?_
        exact s_iret F dX1_gives_148
      refine s_case 13 ?_ (fun n13 => ?_)
      · refine s_tabIn F (off := 120) 149 dX1_gives_29 (by decide) (by decide) rfl (by decide) ?_
        refine s_aload_n F dX1_gives_149 rfl 2 rfl ?_
        refine s_bipush F (v := 10) dX1_gives_150 (by decide) ?_
        refine s_aload_n F dX1_gives_152 rfl 4 rfl ?_
        refine s_iload_n F dX1_gives_153 rfl 5 rfl ?_
        refine s_iload F dX1_gives_154 1 rfl ?_
        refine s_callVi (f := fun hh => rc q 10 r2 x3 v_3 hh) (As := [.int 10, .ref (gad g r2), .int x3, .int v_3]) F yv_X1_gives (hrc hq 10 hr2 x3 v_3) (Nat.le_refl _) m855 hq rfl rfl rfl (Nat.le_of_ble_eq_true rfl) dX1_gives_156 (fun v_17 h_16 e_v_17 => ?_)
        refine s_bipush F (v := 100) dX1_gives_159 (by decide) ?_
        refine s_isub F dX1_gives_161 ?_
        exact s_iret F dX1_gives_162
      refine s_case 14 ?_ (fun n14 => ?_)
      · refine s_tabIn F (off := 134) 163 dX1_gives_29 (by decide) (by decide) rfl (by decide) ?_
        refine s_iconst F (v := 2) dX1_gives_163 (by decide) ?_
        refine s_aload_n F dX1_gives_164 rfl 2 rfl ?_
        refine s_bipush F (v := 13) dX1_gives_165 (by decide) ?_
        refine s_aload_n F dX1_gives_167 rfl 4 rfl ?_
        refine s_iload_n F dX1_gives_168 rfl 5 rfl ?_
        refine s_iload F dX1_gives_169 1 rfl ?_
        refine s_callVi (f := fun hh => rc q 13 r2 x3 v_3 hh) (As := [.int 13, .ref (gad g r2), .int x3, .int v_3]) F yv_X1_gives (hrc hq 13 hr2 x3 v_3) (Nat.le_refl _) m855 hq rfl rfl rfl (Nat.le_of_ble_eq_true rfl) dX1_gives_171 (fun v_19 h_18 e_v_19 => ?_)
        refine s_imul F dX1_gives_174 ?_
        exact s_iret F dX1_gives_175
      refine s_case 15 ?_ (fun n15 => ?_)
      · refine s_tabIn F (off := 221) 250 dX1_gives_29 (by decide) (by decide) rfl (by decide) ?_
        refine s_iconst F (v := 0) dX1_gives_250 (by decide) ?_
        exact s_iret F dX1_gives_251
      refine s_case 16 ?_ (fun n16 => ?_)
      · refine s_tabIn F (off := 221) 250 dX1_gives_29 (by decide) (by decide) rfl (by decide) ?_
        refine s_iconst F (v := 0) dX1_gives_250 (by decide) ?_
        exact s_iret F dX1_gives_251
      refine s_case 17 ?_ (fun n17 => ?_)
      · refine s_tabIn F (off := 221) 250 dX1_gives_29 (by decide) (by decide) rfl (by decide) ?_
        refine s_iconst F (v := 0) dX1_gives_250 (by decide) ?_
        exact s_iret F dX1_gives_251
      refine s_case 18 ?_ (fun n18 => ?_)
      · refine s_tabIn F (off := 221) 250 dX1_gives_29 (by decide) (by decide) rfl (by decide) ?_
        refine s_iconst F (v := 0) dX1_gives_250 (by decide) ?_
        exact s_iret F dX1_gives_251
      refine s_case 19 ?_ (fun n19 => ?_)
      · refine s_tabIn F (off := 221) 250 dX1_gives_29 (by decide) (by decide) rfl (by decide) ?_
        refine s_iconst F (v := 0) dX1_gives_250 (by decide) ?_
        exact s_iret F dX1_gives_251
      refine s_case 20 ?_ (fun n20 => ?_)
      · refine s_tabIn F (off := 147) 176 dX1_gives_29 (by decide) (by decide) rfl (by decide) ?_
        refine s_iload_n F dX1_gives_176 rfl 5 rfl ?_
        exact s_iret F dX1_gives_177
      refine s_case 21 ?_ (fun n21 => ?_)
      · refine s_tabIn F (off := 149) 178 dX1_gives_29 (by decide) (by decide) rfl (by decide) ?_
        refine s_aload_n F dX1_gives_178 rfl 2 rfl ?_
        refine s_bipush F (v := 20) dX1_gives_179 (by decide) ?_
        refine s_aload_n F dX1_gives_181 rfl 4 rfl ?_
        refine s_iload_n F dX1_gives_182 rfl 5 rfl ?_
        refine s_iload F dX1_gives_183 1 rfl ?_
        refine s_callVi (f := fun hh => rc q 20 r2 x3 v_3 hh) (As := [.int 20, .ref (gad g r2), .int x3, .int v_3]) F yv_X1_gives (hrc hq 20 hr2 x3 v_3) (Nat.le_refl _) m855 hq rfl rfl rfl (Nat.le_of_ble_eq_true rfl) dX1_gives_185 (fun v_21 h_20 e_v_21 => ?_)
        refine s_aload_n F dX1_gives_188 rfl 4 rfl ?_
        have hw_22 := wf_ref F.2.2.2.2.2.2.1 hr2 12 6 (.inr (0, 6)) rfl
        refine s_getrN F ciX2 12 6 (.inr (0, 6)) hr2 (by decide) rfl rfl (List.mem_of_getElem? (i := 14) rfl) dX1_gives_189 ?_
        refine s_iload_n F dX1_gives_192 rfl 5 rfl ?_
        refine s_iald F hw_22 dX1_gives_193 ?_
        refine s_iadd F dX1_gives_194 ?_
        exact s_iret F dX1_gives_195
      refine s_case 22 ?_ (fun n22 => ?_)
      · refine s_tabIn F (off := 167) 196 dX1_gives_29 (by decide) (by decide) rfl (by decide) ?_
        refine s_aload_n F dX1_gives_196 rfl 2 rfl ?_
        refine s_bipush F (v := 21) dX1_gives_197 (by decide) ?_
        refine s_aload_n F dX1_gives_199 rfl 4 rfl ?_
        refine s_iload_n F dX1_gives_200 rfl 5 rfl ?_
        refine s_iload F dX1_gives_201 1 rfl ?_
        refine s_callVi (f := fun hh => rc q 21 r2 x3 v_3 hh) (As := [.int 21, .ref (gad g r2), .int x3, .int v_3]) F yv_X1_gives (hrc hq 21 hr2 x3 v_3) (Nat.le_refl _) m855 hq rfl rfl rfl (Nat.le_of_ble_eq_true rfl) dX1_gives_203 (fun v_24 h_23 e_v_24 => ?_)
        refine s_sipush F (v := 1000) dX1_gives_206 (by decide) ?_
        refine s_isub F dX1_gives_209 ?_
        exact s_iret F dX1_gives_210
      refine s_case 23 ?_ (fun n23 => ?_)
      · refine s_tabIn F (off := 182) 211 dX1_gives_29 (by decide) (by decide) rfl (by decide) ?_
        refine s_aload_n F dX1_gives_211 rfl 2 rfl ?_
        refine s_bipush F (v := 20) dX1_gives_212 (by decide) ?_
        refine s_aload_n F dX1_gives_214 rfl 4 rfl ?_
        refine s_iload_n F dX1_gives_215 rfl 5 rfl ?_
        refine s_iload F dX1_gives_216 1 rfl ?_
        refine s_callVi (f := fun hh => rc q 20 r2 x3 v_3 hh) (As := [.int 20, .ref (gad g r2), .int x3, .int v_3]) F yv_X1_gives (hrc hq 20 hr2 x3 v_3) (Nat.le_refl _) m855 hq rfl rfl rfl (Nat.le_of_ble_eq_true rfl) dX1_gives_218 (fun v_26 h_25 e_v_26 => ?_)
        refine s_aload_n F dX1_gives_221 rfl 2 rfl ?_
        refine s_iconst F (v := 0) dX1_gives_222 (by decide) ?_
        refine s_iload F dX1_gives_223 0 rfl ?_
        refine s_callSi (f := fun hh => f_X1_bodyFor 0 v_5 hh) (As := [.int 0, .int v_5]) F ys_X1_bodyFor (ct_X1_bodyFor z.2.1 g 0 v_5) (by omega) m848 rfl rfl (Nat.le_of_ble_eq_true rfl) dX1_gives_225 (fun v_28 h_27 e_v_28 => ?_)
        refine s_aload_n F dX1_gives_228 rfl 4 rfl ?_
        refine s_iload_n F dX1_gives_229 rfl 5 rfl ?_
        refine s_iload F dX1_gives_230 1 rfl ?_
        refine s_callVi (f := fun hh => rc q v_28 r2 x3 v_3 hh) (As := [.int v_28, .ref (gad g r2), .int x3, .int v_3]) F yv_X1_gives (hrc hq v_28 hr2 x3 v_3) (Nat.le_refl _) m855 hq rfl rfl rfl (Nat.le_of_ble_eq_true rfl) dX1_gives_232 (fun v_30 h_29 e_v_30 => ?_)
        refine s_isub F dX1_gives_235 ?_
        exact s_iret F dX1_gives_236
      refine s_case 24 ?_ (fun n24 => ?_)
      · refine s_tabIn F (off := 208) 237 dX1_gives_29 (by decide) (by decide) rfl (by decide) ?_
        refine s_iconst F (v := 2) dX1_gives_237 (by decide) ?_
        refine s_aload_n F dX1_gives_238 rfl 2 rfl ?_
        refine s_bipush F (v := 21) dX1_gives_239 (by decide) ?_
        refine s_aload_n F dX1_gives_241 rfl 4 rfl ?_
        refine s_iload_n F dX1_gives_242 rfl 5 rfl ?_
        refine s_iload F dX1_gives_243 1 rfl ?_
        refine s_callVi (f := fun hh => rc q 21 r2 x3 v_3 hh) (As := [.int 21, .ref (gad g r2), .int x3, .int v_3]) F yv_X1_gives (hrc hq 21 hr2 x3 v_3) (Nat.le_refl _) m855 hq rfl rfl rfl (Nat.le_of_ble_eq_true rfl) dX1_gives_245 (fun v_32 h_31 e_v_32 => ?_)
        refine s_imul F dX1_gives_248 ?_
        exact s_iret F dX1_gives_249
      refine s_tabOut F 250 dX1_gives_29 (by decide) (s_out 10 24 15 (by decide) (by decide) (by decide) (fun j hj => ?_)) ?_
      · rcases (show j = 0 ∨ j = 1 ∨ j = 2 ∨ j = 3 ∨ j = 4 ∨ j = 5 ∨ j = 6 ∨ j = 7 ∨ j = 8 ∨ j = 9 ∨ j = 10 ∨ j = 11 ∨ j = 12 ∨ j = 13 ∨ j = 14 by omega) with rfl | rfl | rfl | rfl | rfl | rfl | rfl | rfl | rfl | rfl | rfl | rfl | rfl | rfl | rfl
        · exact n10
        · exact n11
        · exact n12
        · exact n13
        · exact n14
        · exact n15
        · exact n16
        · exact n17
        · exact n18
        · exact n19
        · exact n20
        · exact n21
        · exact n22
        · exact n23
        · exact n24
      refine s_iconst F (v := 0) dX1_gives_250 (by decide) ?_
      exact s_iret F dX1_gives_251
    · refine s_iconst F (v := 0) dX1_gives_7 (by decide) ?_
      exact s_iret F dX1_gives_8
theorem dX1_answer_0 : decode cX1_answer 0 = .ok (.aload_n 0, 1) := by decide +kernel
theorem dX1_answer_1 : decode cX1_answer 1 = .ok (.iconst 0, 1) := by decide +kernel
theorem dX1_answer_2 : decode cX1_answer 2 = .ok (.putfield 15, 3) := by decide +kernel
theorem dX1_answer_5 : decode cX1_answer 5 = .ok (.aload_n 0, 1) := by decide +kernel
theorem dX1_answer_6 : decode cX1_answer 6 = .ok (.iload_n 3, 1) := by decide +kernel
theorem dX1_answer_7 : decode cX1_answer 7 = .ok (.aload_n 1, 1) := by decide +kernel
theorem dX1_answer_8 : decode cX1_answer 8 = .ok (.getfield 19, 3) := by decide +kernel
theorem dX1_answer_11 : decode cX1_answer 11 = .ok (.iload_n 2, 1) := by decide +kernel
theorem dX1_answer_12 : decode cX1_answer 12 = .ok (.iaload, 1) := by decide +kernel
theorem dX1_answer_13 : decode cX1_answer 13 = .ok (.invokestatic 24, 3) := by decide +kernel
theorem dX1_answer_16 : decode cX1_answer 16 = .ok (.aload_n 1, 1) := by decide +kernel
theorem dX1_answer_17 : decode cX1_answer 17 = .ok (.iload_n 2, 1) := by decide +kernel
theorem dX1_answer_18 : decode cX1_answer 18 = .ok (.iconst 0, 1) := by decide +kernel
theorem dX1_answer_19 : decode cX1_answer 19 = .ok (.invokevirtual 28, 3) := by decide +kernel
theorem dX1_answer_22 : decode cX1_answer 22 = .ok (.ireturn, 1) := by decide +kernel
theorem yv_X1_answer : YV yX1_answer cX1_answer 4 (some .int) 3 := ⟨m845, m846, m8, m847, ⟨by decide +kernel, by decide +kernel, by decide +kernel⟩, by decide⟩
noncomputable def f_X1_answer (q : Nat) (r1 : Nat) (x2 : Int32) (x3 : Int32) (h : AH) : Option (Int32 × AH) := lt (hset h q 1 0) (fun h_1 => ck x2 6 (bd (f_X1_bodyFor x3 (h_1 (r1 + 5) (x2 : Int32).toNatClampNeg) h_1) (fun v_4 h_3 => bd (f_X1_gives 16 q v_4 r1 x2 0 h_3) (fun v_6 h_5 => some (v_6, h_5)))))
set_option maxRecDepth 20000 in
set_option maxHeartbeats 4000000 in
theorem ct_X1_answer (l : Launch) (g : GC) {q : Nat} (hq : (gL g)[q]? = some (.inl 1)) {r1 : Nat} (hr1 : (gL g)[r1]? = some (.inl 2)) (x2 : Int32) (x3 : Int32) : Ct l yX1_answer cX1_answer 4 (some .int) 21 [.ref (gad g q), .ref (gad g r1), .int x2, .int x3] g mkI (fun h => f_X1_answer q r1 x2 x3 h) := by
  refine Ct.of (by decide +kernel) (Nat.le_of_ble_eq_true rfl) (fun z A h _ F => ?_)
  show Snd z 4 g A (QF z g A mkI) 0 [(0, .ref (gad g q)), (1, .ref (gad g r1)), (2, .int x2), (3, .int x3)] [] h (f_X1_answer q r1 x2 x3 h)
  unfold f_X1_answer
  refine s_aload_n F dX1_answer_0 rfl 0 rfl ?_
  refine s_iconst F (v := 0) dX1_answer_1 (by decide) ?_
  refine s_put F ciX1 (k := 1) hq (by decide) rfl rfl rfl rfl m233 dX1_answer_2 ?_
  refine s_letH (fun h_1 => ?_)
  refine s_aload_n F dX1_answer_5 rfl 0 rfl ?_
  refine s_iload_n F dX1_answer_6 rfl 3 rfl ?_
  refine s_aload_n F dX1_answer_7 rfl 1 rfl ?_
  have hw_2 := wf_ref F.2.2.2.2.2.2.1 hr1 11 5 (.inr (0, 6)) rfl
  refine s_getrN F ciX2 11 5 (.inr (0, 6)) hr1 (by decide) rfl rfl (List.mem_of_getElem? (i := 13) rfl) dX1_answer_8 ?_
  refine s_iload_n F dX1_answer_11 rfl 2 rfl ?_
  refine s_iald F hw_2 dX1_answer_12 ?_
  refine s_callSi (f := fun hh => f_X1_bodyFor x3 (h_1 (r1 + 5) (x2 : Int32).toNatClampNeg) hh) (As := [.int x3, .int (h_1 (r1 + 5) (x2 : Int32).toNatClampNeg)]) F ys_X1_bodyFor (ct_X1_bodyFor z.2.1 g x3 (h_1 (r1 + 5) (x2 : Int32).toNatClampNeg)) (by decide) m848 rfl rfl (Nat.le_of_ble_eq_true rfl) dX1_answer_13 (fun v_4 h_3 e_v_4 => ?_)
  refine s_aload_n F dX1_answer_16 rfl 1 rfl ?_
  refine s_iload_n F dX1_answer_17 rfl 2 rfl ?_
  refine s_iconst F (v := 0) dX1_answer_18 (by decide) ?_
  refine s_callVi (f := fun hh => f_X1_gives 16 q v_4 r1 x2 0 hh) (As := [.int v_4, .ref (gad g r1), .int x2, .int 0]) F yv_X1_gives (ct_X1_gives z.2.1 g 16 hq v_4 hr1 x2 0) (by decide) m855 hq rfl rfl rfl (Nat.le_of_ble_eq_true rfl) dX1_answer_19 (fun v_6 h_5 e_v_6 => ?_)
  exact s_iret F dX1_answer_22
theorem dX1_traceAt_0 : decode cX1_traceAt 0 = .ok (.iload_n 1, 1) := by decide +kernel
theorem dX1_traceAt_1 : decode cX1_traceAt 1 = .ok (.ifCond .lt 20, 3) := by decide +kernel
theorem dX1_traceAt_4 : decode cX1_traceAt 4 = .ok (.iload_n 1, 1) := by decide +kernel
theorem dX1_traceAt_5 : decode cX1_traceAt 5 = .ok (.aload_n 0, 1) := by decide +kernel
theorem dX1_traceAt_6 : decode cX1_traceAt 6 = .ok (.getfield 15, 3) := by decide +kernel
theorem dX1_traceAt_9 : decode cX1_traceAt 9 = .ok (.if_icmp .ge 12, 3) := by decide +kernel
theorem dX1_traceAt_12 : decode cX1_traceAt 12 = .ok (.aload_n 0, 1) := by decide +kernel
theorem dX1_traceAt_13 : decode cX1_traceAt 13 = .ok (.getfield 11, 3) := by decide +kernel
theorem dX1_traceAt_16 : decode cX1_traceAt 16 = .ok (.iload_n 1, 1) := by decide +kernel
theorem dX1_traceAt_17 : decode cX1_traceAt 17 = .ok (.iaload, 1) := by decide +kernel
theorem dX1_traceAt_18 : decode cX1_traceAt 18 = .ok (.goto 5, 3) := by decide +kernel
theorem dX1_traceAt_21 : decode cX1_traceAt 21 = .ok (.ldc 32, 2) := by decide +kernel
theorem dX1_traceAt_23 : decode cX1_traceAt 23 = .ok (.ireturn, 1) := by decide +kernel
theorem yv_X1_traceAt : YV yX1_traceAt cX1_traceAt 2 (some .int) 1 := ⟨m869, m870, m8, m871, ⟨by decide +kernel, by decide +kernel, by decide +kernel⟩, by decide⟩
noncomputable def f_X1_traceAt (q : Nat) (x1 : Int32) (h : AH) : Option (Int32 × AH) := if x1 < 0 then (some ((-1000000), h)) else (if (h q 1) ≤ x1 then (some ((-1000000), h)) else (ck x1 16 (some (h (q + 1) (x1 : Int32).toNatClampNeg, h))))
set_option maxRecDepth 20000 in
set_option maxHeartbeats 4000000 in
theorem ct_X1_traceAt (l : Launch) (g : GC) {q : Nat} (hq : (gL g)[q]? = some (.inl 1)) (x1 : Int32) : Ct l yX1_traceAt cX1_traceAt 2 (some .int) 1 [.ref (gad g q), .int x1] g mkI (fun h => f_X1_traceAt q x1 h) := by
  refine Ct.of (by decide +kernel) (Nat.le_of_ble_eq_true rfl) (fun z A h _ F => ?_)
  show Snd z 2 g A (QF z g A mkI) 0 [(0, .ref (gad g q)), (1, .int x1)] [] h (f_X1_traceAt q x1 h)
  unfold f_X1_traceAt
  refine s_iload_n F dX1_traceAt_0 rfl 1 rfl ?_
  refine s_if_lt F 21 dX1_traceAt_1 (by decide) (fun _ => ?_) (fun _ => ?_)
  · refine s_ldc F (v := (-1000000)) dX1_traceAt_21 m872 ?_
    exact s_iret F dX1_traceAt_23
  · refine s_iload_n F dX1_traceAt_4 rfl 1 rfl ?_
    refine s_aload_n F dX1_traceAt_5 rfl 0 rfl ?_
    refine s_geti F ciX1 1 hq (by decide) rfl rfl m233 dX1_traceAt_6 ?_
    refine s_icmp_ge F 21 dX1_traceAt_9 (by decide) (fun _ => ?_) (fun _ => ?_)
    · refine s_ldc F (v := (-1000000)) dX1_traceAt_21 m872 ?_
      exact s_iret F dX1_traceAt_23
    · refine s_aload_n F dX1_traceAt_12 rfl 0 rfl ?_
      have hw_1 := wf_ref F.2.2.2.2.2.2.1 hq 0 1 (.inr (0, 16)) rfl
      refine s_getr F ciX1 0 1 (.inr (0, 16)) hq (by decide) rfl rfl m232 dX1_traceAt_13 ?_
      refine s_iload_n F dX1_traceAt_16 rfl 1 rfl ?_
      refine s_iald F hw_1 dX1_traceAt_17 ?_
      refine s_goto F 23 dX1_traceAt_18 (by decide) ?_
      exact s_iret F dX1_traceAt_23
