theorem dX8_areHours_0 : decode cX8_areHours 0 = .ok (.iload_n 0, 1) := by decide +kernel
theorem dX8_areHours_1 : decode cX8_areHours 1 = .ok (.i2l, 1) := by decide +kernel
theorem dX8_areHours_2 : decode cX8_areHours 2 = .ok (.lconst 0, 1) := by decide +kernel
theorem dX8_areHours_3 : decode cX8_areHours 3 = .ok (.ldc2_w 202, 3) := by decide +kernel
theorem dX8_areHours_6 : decode cX8_areHours 6 = .ok (.invokestatic 75, 3) := by decide +kernel
theorem dX8_areHours_9 : decode cX8_areHours 9 = .ok (.ifCond .eq 20, 3) := by decide +kernel
theorem dX8_areHours_12 : decode cX8_areHours 12 = .ok (.iload_n 1, 1) := by decide +kernel
theorem dX8_areHours_13 : decode cX8_areHours 13 = .ok (.i2l, 1) := by decide +kernel
theorem dX8_areHours_14 : decode cX8_areHours 14 = .ok (.iload_n 0, 1) := by decide +kernel
theorem dX8_areHours_15 : decode cX8_areHours 15 = .ok (.i2l, 1) := by decide +kernel
theorem dX8_areHours_16 : decode cX8_areHours 16 = .ok (.ldc2_w 202, 3) := by decide +kernel
theorem dX8_areHours_19 : decode cX8_areHours 19 = .ok (.invokestatic 75, 3) := by decide +kernel
theorem dX8_areHours_22 : decode cX8_areHours 22 = .ok (.ifCond .eq 7, 3) := by decide +kernel
theorem dX8_areHours_25 : decode cX8_areHours 25 = .ok (.iconst 1, 1) := by decide +kernel
theorem dX8_areHours_26 : decode cX8_areHours 26 = .ok (.goto 4, 3) := by decide +kernel
theorem dX8_areHours_29 : decode cX8_areHours 29 = .ok (.iconst 0, 1) := by decide +kernel
theorem dX8_areHours_30 : decode cX8_areHours 30 = .ok (.ireturn, 1) := by decide +kernel
theorem ys_X8_areHours : YS yX8_areHours cX8_areHours 2 (some .boolean) 2 := ⟨m1220, m9, m1221, ⟨by decide +kernel, by decide +kernel, by decide +kernel⟩, by decide⟩
noncomputable def f_X8_areHours (x0 : Int32) (x1 : Int32) (h : AH) : Option (Int32 × AH) := bd (f_X8_in ((x0 : Int32).toInt64) 0 11 h) (fun v_2 h_1 => if v_2 = 0 then (some (0, h_1)) else (bd (f_X8_in ((x1 : Int32).toInt64) ((x0 : Int32).toInt64) 11 h_1) (fun v_4 h_3 => if v_4 = 0 then (some (0, h_3)) else (some (1, h_3)))))
set_option maxRecDepth 20000 in
set_option maxHeartbeats 4000000 in
theorem ct_X8_areHours (l : Launch) (g : GC) (x0 : Int32) (x1 : Int32) : Ct l yX8_areHours cX8_areHours 2 (some .boolean) 2 [.int x0, .int x1] g mkI (fun h => f_X8_areHours x0 x1 h) := by
  refine Ct.of (by decide +kernel) (Nat.le_of_ble_eq_true rfl) (fun z A h _ F => ?_)
  show Snd z 2 g A (QF z g A mkI) 0 [(0, .int x0), (1, .int x1)] [] h (f_X8_areHours x0 x1 h)
  unfold f_X8_areHours
  refine s_iload_n F dX8_areHours_0 rfl 0 rfl ?_
  refine s_i2l F dX8_areHours_1 ?_
  refine s_lconst F (v := 0) dX8_areHours_2 (by decide) ?_
  refine s_ldc2 F (v := 11) dX8_areHours_3 m1214 ?_
  refine s_callSi (f := fun hh => f_X8_in ((x0 : Int32).toInt64) 0 11 hh) (As := [.long ((x0 : Int32).toInt64), .long 0, .long 11]) F ys_X8_in (ct_X8_in z.2.1 g ((x0 : Int32).toInt64) 0 11) (by decide) m1005 rfl rfl (Nat.le_of_ble_eq_true rfl) dX8_areHours_6 (fun v_2 h_1 e_v_2 => ?_)
  refine s_if_eq F 29 dX8_areHours_9 (by decide) (fun _ => ?_) (fun _ => ?_)
  · refine s_iconst F (v := 0) dX8_areHours_29 (by decide) ?_
    exact s_zret1 F (by decide) dX8_areHours_30
  · refine s_iload_n F dX8_areHours_12 rfl 1 rfl ?_
    refine s_i2l F dX8_areHours_13 ?_
    refine s_iload_n F dX8_areHours_14 rfl 0 rfl ?_
    refine s_i2l F dX8_areHours_15 ?_
    refine s_ldc2 F (v := 11) dX8_areHours_16 m1214 ?_
    refine s_callSi (f := fun hh => f_X8_in ((x1 : Int32).toInt64) ((x0 : Int32).toInt64) 11 hh) (As := [.long ((x1 : Int32).toInt64), .long ((x0 : Int32).toInt64), .long 11]) F ys_X8_in (ct_X8_in z.2.1 g ((x1 : Int32).toInt64) ((x0 : Int32).toInt64) 11) (by decide) m1005 rfl rfl (Nat.le_of_ble_eq_true rfl) dX8_areHours_19 (fun v_4 h_3 e_v_4 => ?_)
    refine s_if_eq F 29 dX8_areHours_22 (by decide) (fun _ => ?_) (fun _ => ?_)
    · refine s_iconst F (v := 0) dX8_areHours_29 (by decide) ?_
      exact s_zret1 F (by decide) dX8_areHours_30
    · refine s_iconst F (v := 1) dX8_areHours_25 (by decide) ?_
      refine s_goto F 30 dX8_areHours_26 (by decide) ?_
      exact s_zret1 F (by decide) dX8_areHours_30
theorem dX8_canBe_0 : decode cX8_canBe 0 = .ok (.iload_n 2, 1) := by decide +kernel
theorem dX8_canBe_1 : decode cX8_canBe 1 = .ok (.bipush 72, 2) := by decide +kernel
theorem dX8_canBe_3 : decode cX8_canBe 3 = .ok (.irem, 1) := by decide +kernel
theorem dX8_canBe_4 : decode cX8_canBe 4 = .ok (.bipush 6, 2) := by decide +kernel
theorem dX8_canBe_6 : decode cX8_canBe 6 = .ok (.idiv, 1) := by decide +kernel
theorem dX8_canBe_7 : decode cX8_canBe 7 = .ok (.istore_n 3, 1) := by decide +kernel
theorem dX8_canBe_8 : decode cX8_canBe 8 = .ok (.iload_n 2, 1) := by decide +kernel
theorem dX8_canBe_9 : decode cX8_canBe 9 = .ok (.bipush 6, 2) := by decide +kernel
theorem dX8_canBe_11 : decode cX8_canBe 11 = .ok (.irem, 1) := by decide +kernel
theorem dX8_canBe_12 : decode cX8_canBe 12 = .ok (.istore 4, 2) := by decide +kernel
theorem dX8_canBe_14 : decode cX8_canBe 14 = .ok (.iload_n 3, 1) := by decide +kernel
theorem dX8_canBe_15 : decode cX8_canBe 15 = .ok (.i2l, 1) := by decide +kernel
theorem dX8_canBe_16 : decode cX8_canBe 16 = .ok (.aload_n 0, 1) := by decide +kernel
theorem dX8_canBe_17 : decode cX8_canBe 17 = .ok (.getfield 262, 3) := by decide +kernel
theorem dX8_canBe_20 : decode cX8_canBe 20 = .ok (.i2l, 1) := by decide +kernel
theorem dX8_canBe_21 : decode cX8_canBe 21 = .ok (.aload_n 0, 1) := by decide +kernel
theorem dX8_canBe_22 : decode cX8_canBe 22 = .ok (.getfield 265, 3) := by decide +kernel
theorem dX8_canBe_25 : decode cX8_canBe 25 = .ok (.i2l, 1) := by decide +kernel
theorem dX8_canBe_26 : decode cX8_canBe 26 = .ok (.invokestatic 75, 3) := by decide +kernel
theorem dX8_canBe_29 : decode cX8_canBe 29 = .ok (.ifCond .eq 33, 3) := by decide +kernel
theorem dX8_canBe_32 : decode cX8_canBe 32 = .ok (.aload_n 0, 1) := by decide +kernel
theorem dX8_canBe_33 : decode cX8_canBe 33 = .ok (.iload 4, 2) := by decide +kernel
theorem dX8_canBe_35 : decode cX8_canBe 35 = .ok (.invokevirtual 229, 3) := by decide +kernel
theorem dX8_canBe_38 : decode cX8_canBe 38 = .ok (.ifCond .eq 24, 3) := by decide +kernel
theorem dX8_canBe_41 : decode cX8_canBe 41 = .ok (.aload_n 0, 1) := by decide +kernel
theorem dX8_canBe_42 : decode cX8_canBe 42 = .ok (.getfield 34, 3) := by decide +kernel
theorem dX8_canBe_45 : decode cX8_canBe 45 = .ok (.iload_n 2, 1) := by decide +kernel
theorem dX8_canBe_46 : decode cX8_canBe 46 = .ok (.baload, 1) := by decide +kernel
theorem dX8_canBe_47 : decode cX8_canBe 47 = .ok (.ifCond .ne 15, 3) := by decide +kernel
theorem dX8_canBe_50 : decode cX8_canBe 50 = .ok (.iload_n 2, 1) := by decide +kernel
theorem dX8_canBe_51 : decode cX8_canBe 51 = .ok (.bipush 72, 2) := by decide +kernel
theorem dX8_canBe_53 : decode cX8_canBe 53 = .ok (.idiv, 1) := by decide +kernel
theorem dX8_canBe_54 : decode cX8_canBe 54 = .ok (.aload_n 0, 1) := by decide +kernel
theorem dX8_canBe_55 : decode cX8_canBe 55 = .ok (.iload_n 1, 1) := by decide +kernel
theorem dX8_canBe_56 : decode cX8_canBe 56 = .ok (.invokevirtual 219, 3) := by decide +kernel
theorem dX8_canBe_59 : decode cX8_canBe 59 = .ok (.if_icmp .eq 5, 3) := by decide +kernel
theorem dX8_canBe_62 : decode cX8_canBe 62 = .ok (.iconst 0, 1) := by decide +kernel
theorem dX8_canBe_63 : decode cX8_canBe 63 = .ok (.ireturn, 1) := by decide +kernel
theorem dX8_canBe_64 : decode cX8_canBe 64 = .ok (.aload_n 0, 1) := by decide +kernel
theorem dX8_canBe_65 : decode cX8_canBe 65 = .ok (.iload_n 1, 1) := by decide +kernel
theorem dX8_canBe_66 : decode cX8_canBe 66 = .ok (.iload 4, 2) := by decide +kernel
theorem dX8_canBe_68 : decode cX8_canBe 68 = .ok (.iload_n 3, 1) := by decide +kernel
theorem dX8_canBe_69 : decode cX8_canBe 69 = .ok (.iload_n 2, 1) := by decide +kernel
theorem dX8_canBe_70 : decode cX8_canBe 70 = .ok (.bipush 72, 2) := by decide +kernel
theorem dX8_canBe_72 : decode cX8_canBe 72 = .ok (.if_icmp .ge 13, 3) := by decide +kernel
theorem dX8_canBe_75 : decode cX8_canBe 75 = .ok (.aload_n 0, 1) := by decide +kernel
theorem dX8_canBe_76 : decode cX8_canBe 76 = .ok (.getfield 50, 3) := by decide +kernel
theorem dX8_canBe_79 : decode cX8_canBe 79 = .ok (.iload 4, 2) := by decide +kernel
theorem dX8_canBe_81 : decode cX8_canBe 81 = .ok (.iaload, 1) := by decide +kernel
theorem dX8_canBe_82 : decode cX8_canBe 82 = .ok (.goto 10, 3) := by decide +kernel
theorem dX8_canBe_85 : decode cX8_canBe 85 = .ok (.aload_n 0, 1) := by decide +kernel
theorem dX8_canBe_86 : decode cX8_canBe 86 = .ok (.iload 4, 2) := by decide +kernel
theorem dX8_canBe_88 : decode cX8_canBe 88 = .ok (.iconst 1, 1) := by decide +kernel
theorem dX8_canBe_89 : decode cX8_canBe 89 = .ok (.invokevirtual 212, 3) := by decide +kernel
theorem dX8_canBe_92 : decode cX8_canBe 92 = .ok (.invokevirtual 222, 3) := by decide +kernel
theorem dX8_canBe_95 : decode cX8_canBe 95 = .ok (.ireturn, 1) := by decide +kernel
theorem yv_X8_canBe : YV yX8_canBe cX8_canBe 5 (some .boolean) 2 := ⟨m1241, ms60, m9, m1242, ⟨by decide +kernel, by decide +kernel, by decide +kernel⟩, by decide⟩
noncomputable def f_X8_canBe (q : Nat) (x1 : Int32) (x2 : Int32) (h : AH) : Option (Int32 × AH) := lt (((x2 - x2 / 72 * 72) / 6)) (fun v_1 => lt ((x2 - x2 / 6 * 6)) (fun v_2 => bd (f_X8_in ((v_1 : Int32).toInt64) ((h q 26 : Int32).toInt64) ((h q 27 : Int32).toInt64) h) (fun v_4 h_3 => if v_4 = 0 then (some (0, h_3)) else (bd (f_X8_isArch q v_2 h_3) (fun v_6 h_5 => if v_6 = 0 then (some (0, h_5)) else (ck x2 144 (if (h_5 (q + 9) (x2 : Int32).toNatClampNeg) = 0 then (bd (f_X8_sideOf q x1 h_5) (fun v_9 h_8 => if (x2 / 72) = v_9 then (if (72 : Int32) ≤ x2 then (bd (f_X8_archOf q v_2 1 h_8) (fun v_11 h_10 => bd (f_X8_mayBy q x1 v_2 v_1 v_11 h_10) (fun v_13 h_12 => gz v_13 (some (v_13, h_12))))) else (ck v_2 6 (bd (f_X8_mayBy q x1 v_2 v_1 (h_8 (q + 14) (v_2 : Int32).toNatClampNeg) h_8) (fun v_16 h_15 => gz v_16 (some (v_16, h_15)))))) else (some (0, h_8)))) else (some (0, h_5)))))))))
set_option maxRecDepth 20000 in
set_option maxHeartbeats 4000000 in
theorem ct_X8_canBe (l : Launch) (g : GC) {q : Nat} (hq : (gL g)[q]? = some (.inl 8)) (x1 : Int32) (x2 : Int32) : Ct l yX8_canBe cX8_canBe 5 (some .boolean) 4 [.ref (gad g q), .int x1, .int x2] g mkI (fun h => f_X8_canBe q x1 x2 h) := by
  refine Ct.of (by decide +kernel) (Nat.le_of_ble_eq_true rfl) (fun z A h _ F => ?_)
  show Snd z 5 g A (QF z g A mkI) 0 [(0, .ref (gad g q)), (1, .int x1), (2, .int x2)] [] h (f_X8_canBe q x1 x2 h)
  unfold f_X8_canBe
  refine s_iload_n F dX8_canBe_0 rfl 2 rfl ?_
  refine s_bipush F (v := 72) dX8_canBe_1 (by decide) ?_
  refine s_iremN F dX8_canBe_3 (by decide) ?_
  refine s_bipush F (v := 6) dX8_canBe_4 (by decide) ?_
  refine s_idivN F dX8_canBe_6 (by decide) ?_
  refine s_leti (fun v_1 => ?_)
  refine s_istore_n F (lv' := [(3, .int v_1), (0, .ref (gad g q)), (1, .int x1), (2, .int x2)]) dX8_canBe_7 rfl (by decide) rfl ?_
  refine s_iload_n F dX8_canBe_8 rfl 3 rfl ?_
  refine s_bipush F (v := 6) dX8_canBe_9 (by decide) ?_
  refine s_iremN F dX8_canBe_11 (by decide) ?_
  refine s_leti (fun v_2 => ?_)
  refine s_istore F (lv' := [(4, .int v_2), (3, .int v_1), (0, .ref (gad g q)), (1, .int x1), (2, .int x2)]) dX8_canBe_12 (by decide) rfl ?_
  refine s_iload_n F dX8_canBe_14 rfl 1 rfl ?_
  refine s_i2l F dX8_canBe_15 ?_
  refine s_aload_n F dX8_canBe_16 rfl 2 rfl ?_
  refine s_geti F ciX8 26 hq (by decide) rfl rfl m919 dX8_canBe_17 ?_
  refine s_i2l F dX8_canBe_20 ?_
  refine s_aload_n F dX8_canBe_21 rfl 2 rfl ?_
  refine s_geti F ciX8 27 hq (by decide) rfl rfl m920 dX8_canBe_22 ?_
  refine s_i2l F dX8_canBe_25 ?_
  refine s_callSi (f := fun hh => f_X8_in ((v_1 : Int32).toInt64) ((h q 26 : Int32).toInt64) ((h q 27 : Int32).toInt64) hh) (As := [.long ((v_1 : Int32).toInt64), .long ((h q 26 : Int32).toInt64), .long ((h q 27 : Int32).toInt64)]) F ys_X8_in (ct_X8_in z.2.1 g ((v_1 : Int32).toInt64) ((h q 26 : Int32).toInt64) ((h q 27 : Int32).toInt64)) (by decide) m1005 rfl rfl (Nat.le_of_ble_eq_true rfl) dX8_canBe_26 (fun v_4 h_3 e_v_4 => ?_)
  refine s_if_eq F 62 dX8_canBe_29 (by decide) (fun _ => ?_) (fun _ => ?_)
  · refine s_iconst F (v := 0) dX8_canBe_62 (by decide) ?_
    exact s_zret1 F (by decide) dX8_canBe_63
  · refine s_aload_n F dX8_canBe_32 rfl 2 rfl ?_
    refine s_iload F dX8_canBe_33 0 rfl ?_
    refine s_callVi (f := fun hh => f_X8_isArch q v_2 hh) (As := [.int v_2]) F yv_X8_isArch (ct_X8_isArch z.2.1 g hq v_2) (by decide) m1117 hq rfl rfl rfl (Nat.le_of_ble_eq_true rfl) dX8_canBe_35 (fun v_6 h_5 e_v_6 => ?_)
    refine s_if_eq F 62 dX8_canBe_38 (by decide) (fun _ => ?_) (fun _ => ?_)
    · refine s_iconst F (v := 0) dX8_canBe_62 (by decide) ?_
      exact s_zret1 F (by decide) dX8_canBe_63
    · refine s_aload_n F dX8_canBe_41 rfl 2 rfl ?_
      have hw_7 := wf_ref F.2.2.2.2.2.2.1 hq 21 9 (.inr (2, 144)) rfl
      refine s_getr F ciX8 21 9 (.inr (2, 144)) hq (by decide) rfl rfl m914 dX8_canBe_42 ?_
      refine s_iload_n F dX8_canBe_45 rfl 4 rfl ?_
      refine s_zald F hw_7 dX8_canBe_46 ?_
      refine s_if_ne F 62 dX8_canBe_47 (by decide) (fun _ => ?_) (fun _ => ?_)
      · refine s_iconst F (v := 0) dX8_canBe_62 (by decide) ?_
        exact s_zret1 F (by decide) dX8_canBe_63
      · refine s_iload_n F dX8_canBe_50 rfl 4 rfl ?_
        refine s_bipush F (v := 72) dX8_canBe_51 (by decide) ?_
        refine s_idivN F dX8_canBe_53 (by decide) ?_
        refine s_aload_n F dX8_canBe_54 rfl 2 rfl ?_
        refine s_iload_n F dX8_canBe_55 rfl 3 rfl ?_
        refine s_callVi (f := fun hh => f_X8_sideOf q x1 hh) (As := [.int x1]) F yv_X8_sideOf (ct_X8_sideOf z.2.1 g hq x1) (by decide) m1142 hq rfl rfl rfl (Nat.le_of_ble_eq_true rfl) dX8_canBe_56 (fun v_9 h_8 e_v_9 => ?_)
        refine s_icmp_eq F 64 dX8_canBe_59 (by decide) (fun _ => ?_) (fun _ => ?_)
        · refine s_aload_n F dX8_canBe_64 rfl 2 rfl ?_
          refine s_iload_n F dX8_canBe_65 rfl 3 rfl ?_
          refine s_iload F dX8_canBe_66 0 rfl ?_
          refine s_iload_n F dX8_canBe_68 rfl 1 rfl ?_
          refine s_iload_n F dX8_canBe_69 rfl 4 rfl ?_
          refine s_bipush F (v := 72) dX8_canBe_70 (by decide) ?_
          refine s_icmp_ge F 85 dX8_canBe_72 (by decide) (fun _ => ?_) (fun _ => ?_)
          · refine s_aload_n F dX8_canBe_85 rfl 2 rfl ?_
            refine s_iload F dX8_canBe_86 0 rfl ?_
            refine s_iconst F (v := 1) dX8_canBe_88 (by decide) ?_
            refine s_callVi (f := fun hh => f_X8_archOf q v_2 1 hh) (As := [.int v_2, .int 1]) F yv_X8_archOf (ct_X8_archOf z.2.1 g hq v_2 1) (by decide) m1154 hq rfl rfl rfl (Nat.le_of_ble_eq_true rfl) dX8_canBe_89 (fun v_11 h_10 e_v_11 => ?_)
            refine s_callVi (f := fun hh => f_X8_mayBy q x1 v_2 v_1 v_11 hh) (As := [.int x1, .int v_2, .int v_1, .int v_11]) F yv_X8_mayBy (ct_X8_mayBy z.2.1 g hq x1 v_2 v_1 v_11) (by decide) m1158 hq rfl rfl rfl (Nat.le_of_ble_eq_true rfl) dX8_canBe_92 (fun v_13 h_12 e_v_13 => ?_)
            exact s_zret F dX8_canBe_95
          · refine s_aload_n F dX8_canBe_75 rfl 2 rfl ?_
            have hw_14 := wf_ref F.2.2.2.2.2.2.1 hq 28 14 (.inr (0, 6)) rfl
            refine s_getr F ciX8 28 14 (.inr (0, 6)) hq (by decide) rfl rfl m921 dX8_canBe_76 ?_
            refine s_iload F dX8_canBe_79 0 rfl ?_
            refine s_iald F hw_14 dX8_canBe_81 ?_
            refine s_goto F 92 dX8_canBe_82 (by decide) ?_
            refine s_callVi (f := fun hh => f_X8_mayBy q x1 v_2 v_1 (h_8 (q + 14) (v_2 : Int32).toNatClampNeg) hh) (As := [.int x1, .int v_2, .int v_1, .int (h_8 (q + 14) (v_2 : Int32).toNatClampNeg)]) F yv_X8_mayBy (ct_X8_mayBy z.2.1 g hq x1 v_2 v_1 (h_8 (q + 14) (v_2 : Int32).toNatClampNeg)) (by decide) m1158 hq rfl rfl rfl (Nat.le_of_ble_eq_true rfl) dX8_canBe_92 (fun v_16 h_15 e_v_16 => ?_)
            exact s_zret F dX8_canBe_95
        · refine s_iconst F (v := 0) dX8_canBe_62 (by decide) ?_
          exact s_zret1 F (by decide) dX8_canBe_63
theorem dX8_shift_0 : decode cX8_shift 0 = .ok (.iload_n 1, 1) := by decide +kernel
theorem dX8_shift_1 : decode cX8_shift 1 = .ok (.istore_n 2, 1) := by decide +kernel
theorem dX8_shift_2 : decode cX8_shift 2 = .ok (.iload_n 2, 1) := by decide +kernel
theorem dX8_shift_3 : decode cX8_shift 3 = .ok (.ldc 101, 2) := by decide +kernel
theorem dX8_shift_5 : decode cX8_shift 5 = .ok (.if_icmp .eq 38, 3) := by decide +kernel
theorem dX8_shift_8 : decode cX8_shift 8 = .ok (.aload_n 0, 1) := by decide +kernel
theorem dX8_shift_9 : decode cX8_shift 9 = .ok (.getfield 41, 3) := by decide +kernel
theorem dX8_shift_12 : decode cX8_shift 12 = .ok (.iload_n 2, 1) := by decide +kernel
theorem dX8_shift_13 : decode cX8_shift 13 = .ok (.iaload, 1) := by decide +kernel
theorem dX8_shift_14 : decode cX8_shift 14 = .ok (.istore_n 3, 1) := by decide +kernel
theorem dX8_shift_15 : decode cX8_shift 15 = .ok (.aload_n 0, 1) := by decide +kernel
theorem dX8_shift_16 : decode cX8_shift 16 = .ok (.getfield 44, 3) := by decide +kernel
theorem dX8_shift_19 : decode cX8_shift 19 = .ok (.iload_n 3, 1) := by decide +kernel
theorem dX8_shift_20 : decode cX8_shift 20 = .ok (.iaload, 1) := by decide +kernel
theorem dX8_shift_21 : decode cX8_shift 21 = .ok (.istore 4, 2) := by decide +kernel
theorem dX8_shift_23 : decode cX8_shift 23 = .ok (.aload_n 0, 1) := by decide +kernel
theorem dX8_shift_24 : decode cX8_shift 24 = .ok (.getfield 31, 3) := by decide +kernel
theorem dX8_shift_27 : decode cX8_shift 27 = .ok (.iload_n 2, 1) := by decide +kernel
theorem dX8_shift_28 : decode cX8_shift 28 = .ok (.iload_n 3, 1) := by decide +kernel
theorem dX8_shift_29 : decode cX8_shift 29 = .ok (.iastore, 1) := by decide +kernel
theorem dX8_shift_30 : decode cX8_shift 30 = .ok (.aload_n 0, 1) := by decide +kernel
theorem dX8_shift_31 : decode cX8_shift 31 = .ok (.getfield 44, 3) := by decide +kernel
theorem dX8_shift_34 : decode cX8_shift 34 = .ok (.iload_n 3, 1) := by decide +kernel
theorem dX8_shift_35 : decode cX8_shift 35 = .ok (.iload_n 2, 1) := by decide +kernel
theorem dX8_shift_36 : decode cX8_shift 36 = .ok (.iastore, 1) := by decide +kernel
theorem dX8_shift_37 : decode cX8_shift 37 = .ok (.iload 4, 2) := by decide +kernel
theorem dX8_shift_39 : decode cX8_shift 39 = .ok (.istore_n 2, 1) := by decide +kernel
theorem dX8_shift_40 : decode cX8_shift 40 = .ok (.goto (-38), 3) := by decide +kernel
theorem dX8_shift_43 : decode cX8_shift 43 = .ok (.return_, 1) := by decide +kernel
theorem yv_X8_shift : YV yX8_shift cX8_shift 5 none 1 := ⟨m1245, ms61, m9, m1246, ⟨by decide +kernel, by decide +kernel, by decide +kernel⟩, by decide⟩
noncomputable def f_X8_shift_2 (q : Nat) : Nat → Int32 → AH → Option (Unit × AH)
  | 0, _, _ => none
  | n + 1, x2, h => if x2 = (-1000000) then (some ((), h)) else (ck x2 144 (lt (h (q + 11) (x2 : Int32).toNatClampNeg) (fun v_2 => ck v_2 6 (lt (h (q + 12) (v_2 : Int32).toNatClampNeg) (fun v_4 => ck x2 144 (lt (hset h (q + 8) (x2 : Int32).toNatClampNeg v_2) (fun h_6 => ck v_2 6 (lt (hset h_6 (q + 12) (v_2 : Int32).toNatClampNeg x2) (fun h_8 => (f_X8_shift_2 q n) v_4 h_8)))))))))
set_option maxRecDepth 20000 in
set_option maxHeartbeats 4000000 in
theorem t_X8_shift_2 {z : MC} {g : GC} {A : Nat → Prop} (F : Fx z cX8_shift 5 RX8 none 1 g A) {q : Nat} (hq : (gL g)[q]? = some (.inl 8)) : ∀ (n : Nat) (x2 : Int32) (h : AH), Snd z 5 g A (QF z g A mkU) 2 [(0, .ref (gad g q)), (2, .int x2)] [] h (f_X8_shift_2 q n x2 h) := by
  intro n
  induction n with
  | zero => intros; exact s_none
  | succ n ih =>
    intro x2 h
    unfold f_X8_shift_2
    refine s_iload_n F dX8_shift_2 rfl 1 rfl ?_
    refine s_ldc F (v := (-1000000)) dX8_shift_3 m1050 ?_
    refine s_icmp_eq F 43 dX8_shift_5 (by decide) (fun _ => ?_) (fun _ => ?_)
    · exact s_vret F dX8_shift_43
    · refine s_aload_n F dX8_shift_8 rfl 0 rfl ?_
      have hw_1 := wf_ref F.2.2.2.2.2.2.1 hq 23 11 (.inr (0, 144)) rfl
      refine s_getr F ciX8 23 11 (.inr (0, 144)) hq (by decide) rfl rfl m916 dX8_shift_9 ?_
      refine s_iload_n F dX8_shift_12 rfl 1 rfl ?_
      refine s_iald F hw_1 dX8_shift_13 ?_
      refine s_leti (fun v_2 => ?_)
      refine s_istore_n F (lv' := [(3, .int v_2), (0, .ref (gad g q)), (2, .int x2)]) dX8_shift_14 rfl (by decide) rfl ?_
      refine s_aload_n F dX8_shift_15 rfl 1 rfl ?_
      have hw_3 := wf_ref F.2.2.2.2.2.2.1 hq 24 12 (.inr (0, 6)) rfl
      refine s_getr F ciX8 24 12 (.inr (0, 6)) hq (by decide) rfl rfl m917 dX8_shift_16 ?_
      refine s_iload_n F dX8_shift_19 rfl 0 rfl ?_
      refine s_iald F hw_3 dX8_shift_20 ?_
      refine s_leti (fun v_4 => ?_)
      refine s_istore F (lv' := [(4, .int v_4), (3, .int v_2), (0, .ref (gad g q)), (2, .int x2)]) dX8_shift_21 (by decide) rfl ?_
      refine s_aload_n F dX8_shift_23 rfl 2 rfl ?_
      have hw_5 := wf_ref F.2.2.2.2.2.2.1 hq 20 8 (.inr (0, 144)) rfl
      refine s_getr F ciX8 20 8 (.inr (0, 144)) hq (by decide) rfl rfl m913 dX8_shift_24 ?_
      refine s_iload_n F dX8_shift_27 rfl 3 rfl ?_
      refine s_iload_n F dX8_shift_28 rfl 1 rfl ?_
      refine s_iast F hw_5 dX8_shift_29 ?_
      refine s_letH (fun h_6 => ?_)
      refine s_aload_n F dX8_shift_30 rfl 2 rfl ?_
      have hw_7 := wf_ref F.2.2.2.2.2.2.1 hq 24 12 (.inr (0, 6)) rfl
      refine s_getr F ciX8 24 12 (.inr (0, 6)) hq (by decide) rfl rfl m917 dX8_shift_31 ?_
      refine s_iload_n F dX8_shift_34 rfl 1 rfl ?_
      refine s_iload_n F dX8_shift_35 rfl 3 rfl ?_
      refine s_iast F hw_7 dX8_shift_36 ?_
      refine s_letH (fun h_8 => ?_)
      refine s_iload F dX8_shift_37 0 rfl ?_
      refine s_istore_n F (lv' := [(2, .int v_4), (4, .int v_4), (3, .int v_2), (0, .ref (gad g q))]) dX8_shift_39 rfl (by decide) rfl ?_
      refine s_goto F 2 dX8_shift_40 (by decide) ?_
      exact s_sub [3, 0] rfl (ih v_4 h_8)
noncomputable def f_X8_shift (q : Nat) (x1 : Int32) (h : AH) : Option (Unit × AH) := f_X8_shift_2 q fu x1 h
set_option maxRecDepth 20000 in
set_option maxHeartbeats 4000000 in
theorem ct_X8_shift (l : Launch) (g : GC) {q : Nat} (hq : (gL g)[q]? = some (.inl 8)) (x1 : Int32) : Ct l yX8_shift cX8_shift 5 none 1 [.ref (gad g q), .int x1] g mkU (fun h => f_X8_shift q x1 h) := by
  refine Ct.of (by decide +kernel) (Nat.le_of_ble_eq_true rfl) (fun z A h _ F => ?_)
  show Snd z 5 g A (QF z g A mkU) 0 [(0, .ref (gad g q)), (1, .int x1)] [] h (f_X8_shift q x1 h)
  unfold f_X8_shift
  refine s_iload_n F dX8_shift_0 rfl 1 rfl ?_
  refine s_istore_n F (lv' := [(2, .int x1), (0, .ref (gad g q)), (1, .int x1)]) dX8_shift_1 rfl (by decide) rfl ?_
  exact s_sub [1, 0] rfl (t_X8_shift_2 F hq fu x1 h)
theorem dX8_putsOne_0 : decode cX8_putsOne 0 = .ok (.iconst 0, 1) := by decide +kernel
theorem dX8_putsOne_1 : decode cX8_putsOne 1 = .ok (.istore_n 2, 1) := by decide +kernel
theorem dX8_putsOne_2 : decode cX8_putsOne 2 = .ok (.iload_n 2, 1) := by decide +kernel
theorem dX8_putsOne_3 : decode cX8_putsOne 3 = .ok (.sipush 144, 3) := by decide +kernel
theorem dX8_putsOne_6 : decode cX8_putsOne 6 = .ok (.if_icmp .ge 16, 3) := by decide +kernel
theorem dX8_putsOne_9 : decode cX8_putsOne 9 = .ok (.aload_n 0, 1) := by decide +kernel
theorem dX8_putsOne_10 : decode cX8_putsOne 10 = .ok (.getfield 38, 3) := by decide +kernel
theorem dX8_putsOne_13 : decode cX8_putsOne 13 = .ok (.iload_n 2, 1) := by decide +kernel
theorem dX8_putsOne_14 : decode cX8_putsOne 14 = .ok (.iconst 0, 1) := by decide +kernel
theorem dX8_putsOne_15 : decode cX8_putsOne 15 = .ok (.bastore, 1) := by decide +kernel
theorem dX8_putsOne_16 : decode cX8_putsOne 16 = .ok (.iinc 2 1, 3) := by decide +kernel
theorem dX8_putsOne_19 : decode cX8_putsOne 19 = .ok (.goto (-17), 3) := by decide +kernel
theorem dX8_putsOne_22 : decode cX8_putsOne 22 = .ok (.iconst 1, 1) := by decide +kernel
theorem dX8_putsOne_23 : decode cX8_putsOne 23 = .ok (.istore_n 2, 1) := by decide +kernel
theorem dX8_putsOne_24 : decode cX8_putsOne 24 = .ok (.aload_n 0, 1) := by decide +kernel
theorem dX8_putsOne_25 : decode cX8_putsOne 25 = .ok (.getfield 47, 3) := by decide +kernel
theorem dX8_putsOne_28 : decode cX8_putsOne 28 = .ok (.iconst 0, 1) := by decide +kernel
theorem dX8_putsOne_29 : decode cX8_putsOne 29 = .ok (.iload_n 1, 1) := by decide +kernel
theorem dX8_putsOne_30 : decode cX8_putsOne 30 = .ok (.iastore, 1) := by decide +kernel
theorem dX8_putsOne_31 : decode cX8_putsOne 31 = .ok (.iconst 0, 1) := by decide +kernel
theorem dX8_putsOne_32 : decode cX8_putsOne 32 = .ok (.istore_n 3, 1) := by decide +kernel
theorem dX8_putsOne_33 : decode cX8_putsOne 33 = .ok (.iload_n 3, 1) := by decide +kernel
theorem dX8_putsOne_34 : decode cX8_putsOne 34 = .ok (.iload_n 2, 1) := by decide +kernel
theorem dX8_putsOne_35 : decode cX8_putsOne 35 = .ok (.if_icmp .ge 108, 3) := by decide +kernel
theorem dX8_putsOne_38 : decode cX8_putsOne 38 = .ok (.iconst 0, 1) := by decide +kernel
theorem dX8_putsOne_39 : decode cX8_putsOne 39 = .ok (.istore 4, 2) := by decide +kernel
theorem dX8_putsOne_41 : decode cX8_putsOne 41 = .ok (.iload 4, 2) := by decide +kernel
theorem dX8_putsOne_43 : decode cX8_putsOne 43 = .ok (.sipush 144, 3) := by decide +kernel
theorem dX8_putsOne_46 : decode cX8_putsOne 46 = .ok (.if_icmp .ge 91, 3) := by decide +kernel
theorem dX8_putsOne_49 : decode cX8_putsOne 49 = .ok (.aload_n 0, 1) := by decide +kernel
theorem dX8_putsOne_50 : decode cX8_putsOne 50 = .ok (.getfield 38, 3) := by decide +kernel
theorem dX8_putsOne_53 : decode cX8_putsOne 53 = .ok (.iload 4, 2) := by decide +kernel
theorem dX8_putsOne_55 : decode cX8_putsOne 55 = .ok (.baload, 1) := by decide +kernel
theorem dX8_putsOne_56 : decode cX8_putsOne 56 = .ok (.ifCond .ne 75, 3) := by decide +kernel
theorem dX8_putsOne_59 : decode cX8_putsOne 59 = .ok (.aload_n 0, 1) := by decide +kernel
theorem dX8_putsOne_60 : decode cX8_putsOne 60 = .ok (.aload_n 0, 1) := by decide +kernel
theorem dX8_putsOne_61 : decode cX8_putsOne 61 = .ok (.getfield 47, 3) := by decide +kernel
theorem dX8_putsOne_64 : decode cX8_putsOne 64 = .ok (.iload_n 3, 1) := by decide +kernel
theorem dX8_putsOne_65 : decode cX8_putsOne 65 = .ok (.iaload, 1) := by decide +kernel
theorem dX8_putsOne_66 : decode cX8_putsOne 66 = .ok (.iload 4, 2) := by decide +kernel
theorem dX8_putsOne_68 : decode cX8_putsOne 68 = .ok (.invokevirtual 268, 3) := by decide +kernel
theorem dX8_putsOne_71 : decode cX8_putsOne 71 = .ok (.ifCond .eq 60, 3) := by decide +kernel
theorem dX8_putsOne_74 : decode cX8_putsOne 74 = .ok (.aload_n 0, 1) := by decide +kernel
theorem dX8_putsOne_75 : decode cX8_putsOne 75 = .ok (.getfield 38, 3) := by decide +kernel
theorem dX8_putsOne_78 : decode cX8_putsOne 78 = .ok (.iload 4, 2) := by decide +kernel
theorem dX8_putsOne_80 : decode cX8_putsOne 80 = .ok (.iconst 1, 1) := by decide +kernel
theorem dX8_putsOne_81 : decode cX8_putsOne 81 = .ok (.bastore, 1) := by decide +kernel
theorem dX8_putsOne_82 : decode cX8_putsOne 82 = .ok (.aload_n 0, 1) := by decide +kernel
theorem dX8_putsOne_83 : decode cX8_putsOne 83 = .ok (.getfield 41, 3) := by decide +kernel
theorem dX8_putsOne_86 : decode cX8_putsOne 86 = .ok (.iload 4, 2) := by decide +kernel
theorem dX8_putsOne_88 : decode cX8_putsOne 88 = .ok (.aload_n 0, 1) := by decide +kernel
theorem dX8_putsOne_89 : decode cX8_putsOne 89 = .ok (.getfield 47, 3) := by decide +kernel
theorem dX8_putsOne_92 : decode cX8_putsOne 92 = .ok (.iload_n 3, 1) := by decide +kernel
theorem dX8_putsOne_93 : decode cX8_putsOne 93 = .ok (.iaload, 1) := by decide +kernel
theorem dX8_putsOne_94 : decode cX8_putsOne 94 = .ok (.iastore, 1) := by decide +kernel
theorem dX8_putsOne_95 : decode cX8_putsOne 95 = .ok (.aload_n 0, 1) := by decide +kernel
theorem dX8_putsOne_96 : decode cX8_putsOne 96 = .ok (.getfield 31, 3) := by decide +kernel
theorem dX8_putsOne_99 : decode cX8_putsOne 99 = .ok (.iload 4, 2) := by decide +kernel
theorem dX8_putsOne_101 : decode cX8_putsOne 101 = .ok (.iaload, 1) := by decide +kernel
theorem dX8_putsOne_102 : decode cX8_putsOne 102 = .ok (.ldc 101, 2) := by decide +kernel
theorem dX8_putsOne_104 : decode cX8_putsOne 104 = .ok (.if_icmp .ne 11, 3) := by decide +kernel
theorem dX8_putsOne_107 : decode cX8_putsOne 107 = .ok (.aload_n 0, 1) := by decide +kernel
theorem dX8_putsOne_108 : decode cX8_putsOne 108 = .ok (.iload 4, 2) := by decide +kernel
theorem dX8_putsOne_110 : decode cX8_putsOne 110 = .ok (.invokevirtual 271, 3) := by decide +kernel
theorem dX8_putsOne_113 : decode cX8_putsOne 113 = .ok (.iconst 1, 1) := by decide +kernel
theorem dX8_putsOne_114 : decode cX8_putsOne 114 = .ok (.ireturn, 1) := by decide +kernel
theorem dX8_putsOne_115 : decode cX8_putsOne 115 = .ok (.aload_n 0, 1) := by decide +kernel
theorem dX8_putsOne_116 : decode cX8_putsOne 116 = .ok (.getfield 47, 3) := by decide +kernel
theorem dX8_putsOne_119 : decode cX8_putsOne 119 = .ok (.iload_n 2, 1) := by decide +kernel
theorem dX8_putsOne_120 : decode cX8_putsOne 120 = .ok (.aload_n 0, 1) := by decide +kernel
theorem dX8_putsOne_121 : decode cX8_putsOne 121 = .ok (.getfield 31, 3) := by decide +kernel
theorem dX8_putsOne_124 : decode cX8_putsOne 124 = .ok (.iload 4, 2) := by decide +kernel
theorem dX8_putsOne_126 : decode cX8_putsOne 126 = .ok (.iaload, 1) := by decide +kernel
theorem dX8_putsOne_127 : decode cX8_putsOne 127 = .ok (.iastore, 1) := by decide +kernel
theorem dX8_putsOne_128 : decode cX8_putsOne 128 = .ok (.iinc 2 1, 3) := by decide +kernel
theorem dX8_putsOne_131 : decode cX8_putsOne 131 = .ok (.iinc 4 1, 3) := by decide +kernel
theorem dX8_putsOne_134 : decode cX8_putsOne 134 = .ok (.goto (-93), 3) := by decide +kernel
theorem dX8_putsOne_137 : decode cX8_putsOne 137 = .ok (.iinc 3 1, 3) := by decide +kernel
theorem dX8_putsOne_140 : decode cX8_putsOne 140 = .ok (.goto (-107), 3) := by decide +kernel
theorem dX8_putsOne_143 : decode cX8_putsOne 143 = .ok (.iconst 0, 1) := by decide +kernel
theorem dX8_putsOne_144 : decode cX8_putsOne 144 = .ok (.ireturn, 1) := by decide +kernel
theorem yv_X8_putsOne : YV yX8_putsOne cX8_putsOne 5 (some .boolean) 1 := ⟨m1237, ms59, m9, m1238, ⟨by decide +kernel, by decide +kernel, by decide +kernel⟩, by decide⟩
noncomputable def f_X8_putsOne_41 (q : Nat) (K33 : Int32 → Int32 → AH → Option (Int32 × AH)) : Nat → Int32 → Int32 → Int32 → AH → Option (Int32 × AH)
  | 0, _, _, _, _ => none
  | n + 1, x2, x3, x4, h => if (144 : Int32) ≤ x4 then (lt (x3 + 1) (fun v_1 => K33 x2 v_1 h)) else (ck x4 144 (if (h (q + 10) (x4 : Int32).toNatClampNeg) = 0 then (ck x3 6 (bd (f_X8_canBe q (h (q + 13) (x3 : Int32).toNatClampNeg) x4 h) (fun v_6 h_5 => if v_6 = 0 then (lt (x4 + 1) (fun v_7 => (f_X8_putsOne_41 q K33 n) x2 x3 v_7 h_5)) else (ck x4 144 (lt (hset h_5 (q + 10) (x4 : Int32).toNatClampNeg (vp_nar .boolean 1)) (fun h_9 => ck x3 6 (ck x4 144 (lt (hset h_9 (q + 11) (x4 : Int32).toNatClampNeg (h_9 (q + 13) (x3 : Int32).toNatClampNeg)) (fun h_12 => ck x4 144 (if (h_12 (q + 8) (x4 : Int32).toNatClampNeg) = (-1000000) then (bd (f_X8_shift q x4 h_12) (fun _ h_19 => some (1, h_19))) else (ck x4 144 (ck x2 6 (lt (hset h_12 (q + 13) (x2 : Int32).toNatClampNeg (h_12 (q + 8) (x4 : Int32).toNatClampNeg)) (fun h_16 => lt (x2 + 1) (fun v_17 => lt (x4 + 1) (fun v_18 => (f_X8_putsOne_41 q K33 n) v_17 x3 v_18 h_16)))))))))))))))) else (lt (x4 + 1) (fun v_3 => (f_X8_putsOne_41 q K33 n) x2 x3 v_3 h))))
set_option maxRecDepth 20000 in
set_option maxHeartbeats 4000000 in
theorem t_X8_putsOne_41 {z : MC} {g : GC} {A : Nat → Prop} (F : Fx z cX8_putsOne 5 RX8 (some .boolean) 5 g A) {q : Nat} (hq : (gL g)[q]? = some (.inl 8)) (K33 : Int32 → Int32 → AH → Option (Int32 × AH)) (hK33 : ∀ (x2 : Int32) (x3 : Int32) (h : AH), Snd z 5 g A (QF z g A mkI) 33 [(0, .ref (gad g q)), (2, .int x2), (3, .int x3)] [] h (K33 x2 x3 h)) : ∀ (n : Nat) (x2 : Int32) (x3 : Int32) (x4 : Int32) (h : AH), Snd z 5 g A (QF z g A mkI) 41 [(0, .ref (gad g q)), (2, .int x2), (3, .int x3), (4, .int x4)] [] h (f_X8_putsOne_41 q K33 n x2 x3 x4 h) := by
  intro n
  induction n with
  | zero => intros; exact s_none
  | succ n ih =>
    intro x2 x3 x4 h
    unfold f_X8_putsOne_41
    refine s_iload F dX8_putsOne_41 3 rfl ?_
    refine s_sipush F (v := 144) dX8_putsOne_43 (by decide) ?_
    refine s_icmp_ge F 137 dX8_putsOne_46 (by decide) (fun _ => ?_) (fun _ => ?_)
    · refine s_iincv F dX8_putsOne_137 2 rfl (by decide) (c := 1) (by decide) (fun v_1 => ?_)
      refine s_lv (lv' := [(3, .int v_1), (0, .ref (gad g q)), (2, .int x2), (4, .int x4)]) rfl ?_
      refine s_goto F 33 dX8_putsOne_140 (by decide) ?_
      exact s_sub [1, 2, 0] rfl (hK33 x2 v_1 h)
    · refine s_aload_n F dX8_putsOne_49 rfl 0 rfl ?_
      have hw_2 := wf_ref F.2.2.2.2.2.2.1 hq 22 10 (.inr (2, 144)) rfl
      refine s_getr F ciX8 22 10 (.inr (2, 144)) hq (by decide) rfl rfl m915 dX8_putsOne_50 ?_
      refine s_iload F dX8_putsOne_53 3 rfl ?_
      refine s_zald F hw_2 dX8_putsOne_55 ?_
      refine s_if_ne F 131 dX8_putsOne_56 (by decide) (fun _ => ?_) (fun _ => ?_)
      · refine s_iincv F dX8_putsOne_131 3 rfl (by decide) (c := 1) (by decide) (fun v_3 => ?_)
        refine s_lv (lv' := [(4, .int v_3), (0, .ref (gad g q)), (2, .int x2), (3, .int x3)]) rfl ?_
        refine s_goto F 41 dX8_putsOne_134 (by decide) ?_
        exact s_sub [1, 2, 3, 0] rfl (ih x2 x3 v_3 h)
      · refine s_aload_n F dX8_putsOne_59 rfl 0 rfl ?_
        refine s_aload_n F dX8_putsOne_60 rfl 0 rfl ?_
        have hw_4 := wf_ref F.2.2.2.2.2.2.1 hq 25 13 (.inr (0, 6)) rfl
        refine s_getr F ciX8 25 13 (.inr (0, 6)) hq (by decide) rfl rfl m918 dX8_putsOne_61 ?_
        refine s_iload_n F dX8_putsOne_64 rfl 2 rfl ?_
        refine s_iald F hw_4 dX8_putsOne_65 ?_
        refine s_iload F dX8_putsOne_66 3 rfl ?_
        refine s_callVi (f := fun hh => f_X8_canBe q (h (q + 13) (x3 : Int32).toNatClampNeg) x4 hh) (As := [.int (h (q + 13) (x3 : Int32).toNatClampNeg), .int x4]) F yv_X8_canBe (ct_X8_canBe z.2.1 g hq (h (q + 13) (x3 : Int32).toNatClampNeg) x4) (by decide) m1239 hq rfl rfl rfl (Nat.le_of_ble_eq_true rfl) dX8_putsOne_68 (fun v_6 h_5 e_v_6 => ?_)
        refine s_if_eq F 131 dX8_putsOne_71 (by decide) (fun _ => ?_) (fun _ => ?_)
        · refine s_iincv F dX8_putsOne_131 3 rfl (by decide) (c := 1) (by decide) (fun v_7 => ?_)
          refine s_lv (lv' := [(4, .int v_7), (0, .ref (gad g q)), (2, .int x2), (3, .int x3)]) rfl ?_
          refine s_goto F 41 dX8_putsOne_134 (by decide) ?_
          exact s_sub [1, 2, 3, 0] rfl (ih x2 x3 v_7 h_5)
        · refine s_aload_n F dX8_putsOne_74 rfl 0 rfl ?_
          have hw_8 := wf_ref F.2.2.2.2.2.2.1 hq 22 10 (.inr (2, 144)) rfl
          refine s_getr F ciX8 22 10 (.inr (2, 144)) hq (by decide) rfl rfl m915 dX8_putsOne_75 ?_
          refine s_iload F dX8_putsOne_78 3 rfl ?_
          refine s_iconst F (v := 1) dX8_putsOne_80 (by decide) ?_
          refine s_zast F hw_8 dX8_putsOne_81 ?_
          refine s_letH (fun h_9 => ?_)
          refine s_aload_n F dX8_putsOne_82 rfl 0 rfl ?_
          have hw_10 := wf_ref F.2.2.2.2.2.2.1 hq 23 11 (.inr (0, 144)) rfl
          refine s_getr F ciX8 23 11 (.inr (0, 144)) hq (by decide) rfl rfl m916 dX8_putsOne_83 ?_
          refine s_iload F dX8_putsOne_86 3 rfl ?_
          refine s_aload_n F dX8_putsOne_88 rfl 0 rfl ?_
          have hw_11 := wf_ref F.2.2.2.2.2.2.1 hq 25 13 (.inr (0, 6)) rfl
          refine s_getr F ciX8 25 13 (.inr (0, 6)) hq (by decide) rfl rfl m918 dX8_putsOne_89 ?_
          refine s_iload_n F dX8_putsOne_92 rfl 2 rfl ?_
          refine s_iald F hw_11 dX8_putsOne_93 ?_
          refine s_iast F hw_10 dX8_putsOne_94 ?_
          refine s_letH (fun h_12 => ?_)
          refine s_aload_n F dX8_putsOne_95 rfl 0 rfl ?_
          have hw_13 := wf_ref F.2.2.2.2.2.2.1 hq 20 8 (.inr (0, 144)) rfl
          refine s_getr F ciX8 20 8 (.inr (0, 144)) hq (by decide) rfl rfl m913 dX8_putsOne_96 ?_
          refine s_iload F dX8_putsOne_99 3 rfl ?_
          refine s_iald F hw_13 dX8_putsOne_101 ?_
          refine s_ldc F (v := (-1000000)) dX8_putsOne_102 m1050 ?_
          refine s_icmp_ne F 115 dX8_putsOne_104 (by decide) (fun _ => ?_) (fun _ => ?_)
          · refine s_aload_n F dX8_putsOne_115 rfl 0 rfl ?_
            have hw_14 := wf_ref F.2.2.2.2.2.2.1 hq 25 13 (.inr (0, 6)) rfl
            refine s_getr F ciX8 25 13 (.inr (0, 6)) hq (by decide) rfl rfl m918 dX8_putsOne_116 ?_
            refine s_iload_n F dX8_putsOne_119 rfl 1 rfl ?_
            refine s_aload_n F dX8_putsOne_120 rfl 0 rfl ?_
            have hw_15 := wf_ref F.2.2.2.2.2.2.1 hq 20 8 (.inr (0, 144)) rfl
            refine s_getr F ciX8 20 8 (.inr (0, 144)) hq (by decide) rfl rfl m913 dX8_putsOne_121 ?_
            refine s_iload F dX8_putsOne_124 3 rfl ?_
            refine s_iald F hw_15 dX8_putsOne_126 ?_
            refine s_iast F hw_14 dX8_putsOne_127 ?_
            refine s_letH (fun h_16 => ?_)
            refine s_iincv F dX8_putsOne_128 1 rfl (by decide) (c := 1) (by decide) (fun v_17 => ?_)
            refine s_lv (lv' := [(2, .int v_17), (0, .ref (gad g q)), (3, .int x3), (4, .int x4)]) rfl ?_
            refine s_iincv F dX8_putsOne_131 3 rfl (by decide) (c := 1) (by decide) (fun v_18 => ?_)
            refine s_lv (lv' := [(4, .int v_18), (2, .int v_17), (0, .ref (gad g q)), (3, .int x3)]) rfl ?_
            refine s_goto F 41 dX8_putsOne_134 (by decide) ?_
            exact s_sub [2, 1, 3, 0] rfl (ih v_17 x3 v_18 h_16)
          · refine s_aload_n F dX8_putsOne_107 rfl 0 rfl ?_
            refine s_iload F dX8_putsOne_108 3 rfl ?_
            refine s_callVu (f := fun hh => f_X8_shift q x4 hh) (As := [.int x4]) F yv_X8_shift (ct_X8_shift z.2.1 g hq x4) (by decide) m1243 hq rfl rfl rfl (Nat.le_of_ble_eq_true rfl) dX8_putsOne_110 (fun _ h_19 e_v_20 => ?_)
            refine s_iconst F (v := 1) dX8_putsOne_113 (by decide) ?_
            exact s_zret1 F (by decide) dX8_putsOne_114
noncomputable def f_X8_putsOne_33 (q : Nat) : Nat → Int32 → Int32 → AH → Option (Int32 × AH)
  | 0, _, _, _ => none
  | n + 1, x2, x3, h => if x2 ≤ x3 then (some (0, h)) else (f_X8_putsOne_41 q (f_X8_putsOne_33 q n) fu x2 x3 0 h)
set_option maxRecDepth 20000 in
set_option maxHeartbeats 4000000 in
theorem t_X8_putsOne_33 {z : MC} {g : GC} {A : Nat → Prop} (F : Fx z cX8_putsOne 5 RX8 (some .boolean) 5 g A) {q : Nat} (hq : (gL g)[q]? = some (.inl 8)) : ∀ (n : Nat) (x2 : Int32) (x3 : Int32) (h : AH), Snd z 5 g A (QF z g A mkI) 33 [(0, .ref (gad g q)), (2, .int x2), (3, .int x3)] [] h (f_X8_putsOne_33 q n x2 x3 h) := by
  intro n
  induction n with
  | zero => intros; exact s_none
  | succ n ih =>
    intro x2 x3 h
    unfold f_X8_putsOne_33
    refine s_iload_n F dX8_putsOne_33 rfl 2 rfl ?_
    refine s_iload_n F dX8_putsOne_34 rfl 1 rfl ?_
    refine s_icmp_ge F 143 dX8_putsOne_35 (by decide) (fun _ => ?_) (fun _ => ?_)
    · refine s_iconst F (v := 0) dX8_putsOne_143 (by decide) ?_
      exact s_zret1 F (by decide) dX8_putsOne_144
    · refine s_iconst F (v := 0) dX8_putsOne_38 (by decide) ?_
      refine s_istore F (lv' := [(4, .int 0), (0, .ref (gad g q)), (2, .int x2), (3, .int x3)]) dX8_putsOne_39 (by decide) rfl ?_
      exact s_sub [1, 2, 3, 0] rfl (t_X8_putsOne_41 F hq (f_X8_putsOne_33 q n) ih fu x2 x3 0 h)
noncomputable def f_X8_putsOne_2 (q : Nat) : Nat → Int32 → Int32 → AH → Option (Int32 × AH)
  | 0, _, _, _ => none
  | n + 1, x1, x2, h => if (144 : Int32) ≤ x2 then (ck 0 6 (lt (hset h (q + 13) (0 : Int32).toNatClampNeg x1) (fun h_2 => f_X8_putsOne_33 q fu 1 0 h_2))) else (ck x2 144 (lt (hset h (q + 10) (x2 : Int32).toNatClampNeg (vp_nar .boolean 0)) (fun h_4 => lt (x2 + 1) (fun v_5 => (f_X8_putsOne_2 q n) x1 v_5 h_4))))
set_option maxRecDepth 20000 in
set_option maxHeartbeats 4000000 in
theorem t_X8_putsOne_2 {z : MC} {g : GC} {A : Nat → Prop} (F : Fx z cX8_putsOne 5 RX8 (some .boolean) 5 g A) {q : Nat} (hq : (gL g)[q]? = some (.inl 8)) : ∀ (n : Nat) (x1 : Int32) (x2 : Int32) (h : AH), Snd z 5 g A (QF z g A mkI) 2 [(0, .ref (gad g q)), (1, .int x1), (2, .int x2)] [] h (f_X8_putsOne_2 q n x1 x2 h) := by
  intro n
  induction n with
  | zero => intros; exact s_none
  | succ n ih =>
    intro x1 x2 h
    unfold f_X8_putsOne_2
    refine s_iload_n F dX8_putsOne_2 rfl 2 rfl ?_
    refine s_sipush F (v := 144) dX8_putsOne_3 (by decide) ?_
    refine s_icmp_ge F 22 dX8_putsOne_6 (by decide) (fun _ => ?_) (fun _ => ?_)
    · refine s_iconst F (v := 1) dX8_putsOne_22 (by decide) ?_
      refine s_istore_n F (lv' := [(2, .int 1), (0, .ref (gad g q)), (1, .int x1)]) dX8_putsOne_23 rfl (by decide) rfl ?_
      refine s_aload_n F dX8_putsOne_24 rfl 1 rfl ?_
      have hw_1 := wf_ref F.2.2.2.2.2.2.1 hq 25 13 (.inr (0, 6)) rfl
      refine s_getr F ciX8 25 13 (.inr (0, 6)) hq (by decide) rfl rfl m918 dX8_putsOne_25 ?_
      refine s_iconst F (v := 0) dX8_putsOne_28 (by decide) ?_
      refine s_iload_n F dX8_putsOne_29 rfl 2 rfl ?_
      refine s_iast F hw_1 dX8_putsOne_30 ?_
      refine s_letH (fun h_2 => ?_)
      refine s_iconst F (v := 0) dX8_putsOne_31 (by decide) ?_
      refine s_istore_n F (lv' := [(3, .int 0), (2, .int 1), (0, .ref (gad g q)), (1, .int x1)]) dX8_putsOne_32 rfl (by decide) rfl ?_
      exact s_sub [2, 1, 0] rfl (t_X8_putsOne_33 F hq fu 1 0 h_2)
    · refine s_aload_n F dX8_putsOne_9 rfl 0 rfl ?_
      have hw_3 := wf_ref F.2.2.2.2.2.2.1 hq 22 10 (.inr (2, 144)) rfl
      refine s_getr F ciX8 22 10 (.inr (2, 144)) hq (by decide) rfl rfl m915 dX8_putsOne_10 ?_
      refine s_iload_n F dX8_putsOne_13 rfl 2 rfl ?_
      refine s_iconst F (v := 0) dX8_putsOne_14 (by decide) ?_
      refine s_zast F hw_3 dX8_putsOne_15 ?_
      refine s_letH (fun h_4 => ?_)
      refine s_iincv F dX8_putsOne_16 2 rfl (by decide) (c := 1) (by decide) (fun v_5 => ?_)
      refine s_lv (lv' := [(2, .int v_5), (0, .ref (gad g q)), (1, .int x1)]) rfl ?_
      refine s_goto F 2 dX8_putsOne_19 (by decide) ?_
      exact s_sub [1, 2, 0] rfl (ih x1 v_5 h_4)
noncomputable def f_X8_putsOne (q : Nat) (x1 : Int32) (h : AH) : Option (Int32 × AH) := f_X8_putsOne_2 q fu x1 0 h
set_option maxRecDepth 20000 in
set_option maxHeartbeats 4000000 in
theorem ct_X8_putsOne (l : Launch) (g : GC) {q : Nat} (hq : (gL g)[q]? = some (.inl 8)) (x1 : Int32) : Ct l yX8_putsOne cX8_putsOne 5 (some .boolean) 5 [.ref (gad g q), .int x1] g mkI (fun h => f_X8_putsOne q x1 h) := by
  refine Ct.of (by decide +kernel) (Nat.le_of_ble_eq_true rfl) (fun z A h _ F => ?_)
  show Snd z 5 g A (QF z g A mkI) 0 [(0, .ref (gad g q)), (1, .int x1)] [] h (f_X8_putsOne q x1 h)
  unfold f_X8_putsOne
  refine s_iconst F (v := 0) dX8_putsOne_0 (by decide) ?_
  refine s_istore_n F (lv' := [(2, .int 0), (0, .ref (gad g q)), (1, .int x1)]) dX8_putsOne_1 rfl (by decide) rfl ?_
  exact s_sub [1, 2, 0] rfl (t_X8_putsOne_2 F hq fu x1 0 h)
theorem dX8_mostFrom_0 : decode cX8_mostFrom 0 = .ok (.iconst 0, 1) := by decide +kernel
theorem dX8_mostFrom_1 : decode cX8_mostFrom 1 = .ok (.istore_n 2, 1) := by decide +kernel
theorem dX8_mostFrom_2 : decode cX8_mostFrom 2 = .ok (.iload_n 2, 1) := by decide +kernel
theorem dX8_mostFrom_3 : decode cX8_mostFrom 3 = .ok (.sipush 144, 3) := by decide +kernel
theorem dX8_mostFrom_6 : decode cX8_mostFrom 6 = .ok (.if_icmp .ge 17, 3) := by decide +kernel
theorem dX8_mostFrom_9 : decode cX8_mostFrom 9 = .ok (.aload_n 0, 1) := by decide +kernel
theorem dX8_mostFrom_10 : decode cX8_mostFrom 10 = .ok (.getfield 31, 3) := by decide +kernel
theorem dX8_mostFrom_13 : decode cX8_mostFrom 13 = .ok (.iload_n 2, 1) := by decide +kernel
theorem dX8_mostFrom_14 : decode cX8_mostFrom 14 = .ok (.ldc 101, 2) := by decide +kernel
theorem dX8_mostFrom_16 : decode cX8_mostFrom 16 = .ok (.iastore, 1) := by decide +kernel
theorem dX8_mostFrom_17 : decode cX8_mostFrom 17 = .ok (.iinc 2 1, 3) := by decide +kernel
theorem dX8_mostFrom_20 : decode cX8_mostFrom 20 = .ok (.goto (-18), 3) := by decide +kernel
theorem dX8_mostFrom_23 : decode cX8_mostFrom 23 = .ok (.iconst 0, 1) := by decide +kernel
theorem dX8_mostFrom_24 : decode cX8_mostFrom 24 = .ok (.istore_n 2, 1) := by decide +kernel
theorem dX8_mostFrom_25 : decode cX8_mostFrom 25 = .ok (.iload_n 2, 1) := by decide +kernel
theorem dX8_mostFrom_26 : decode cX8_mostFrom 26 = .ok (.bipush 6, 2) := by decide +kernel
theorem dX8_mostFrom_28 : decode cX8_mostFrom 28 = .ok (.if_icmp .ge 17, 3) := by decide +kernel
theorem dX8_mostFrom_31 : decode cX8_mostFrom 31 = .ok (.aload_n 0, 1) := by decide +kernel
theorem dX8_mostFrom_32 : decode cX8_mostFrom 32 = .ok (.getfield 44, 3) := by decide +kernel
theorem dX8_mostFrom_35 : decode cX8_mostFrom 35 = .ok (.iload_n 2, 1) := by decide +kernel
theorem dX8_mostFrom_36 : decode cX8_mostFrom 36 = .ok (.ldc 101, 2) := by decide +kernel
theorem dX8_mostFrom_38 : decode cX8_mostFrom 38 = .ok (.iastore, 1) := by decide +kernel
theorem dX8_mostFrom_39 : decode cX8_mostFrom 39 = .ok (.iinc 2 1, 3) := by decide +kernel
theorem dX8_mostFrom_42 : decode cX8_mostFrom 42 = .ok (.goto (-17), 3) := by decide +kernel
theorem dX8_mostFrom_45 : decode cX8_mostFrom 45 = .ok (.iconst 0, 1) := by decide +kernel
theorem dX8_mostFrom_46 : decode cX8_mostFrom 46 = .ok (.istore_n 2, 1) := by decide +kernel
theorem dX8_mostFrom_47 : decode cX8_mostFrom 47 = .ok (.iload_n 1, 1) := by decide +kernel
theorem dX8_mostFrom_48 : decode cX8_mostFrom 48 = .ok (.istore_n 3, 1) := by decide +kernel
theorem dX8_mostFrom_49 : decode cX8_mostFrom 49 = .ok (.iload_n 3, 1) := by decide +kernel
theorem dX8_mostFrom_50 : decode cX8_mostFrom 50 = .ok (.aload_n 0, 1) := by decide +kernel
theorem dX8_mostFrom_51 : decode cX8_mostFrom 51 = .ok (.getfield 19, 3) := by decide +kernel
theorem dX8_mostFrom_54 : decode cX8_mostFrom 54 = .ok (.iconst 1, 1) := by decide +kernel
theorem dX8_mostFrom_55 : decode cX8_mostFrom 55 = .ok (.iaload, 1) := by decide +kernel
theorem dX8_mostFrom_56 : decode cX8_mostFrom 56 = .ok (.if_icmp .ge 35, 3) := by decide +kernel
theorem dX8_mostFrom_59 : decode cX8_mostFrom 59 = .ok (.iload_n 2, 1) := by decide +kernel
theorem dX8_mostFrom_60 : decode cX8_mostFrom 60 = .ok (.aload_n 0, 1) := by decide +kernel
theorem dX8_mostFrom_61 : decode cX8_mostFrom 61 = .ok (.iload_n 3, 1) := by decide +kernel
theorem dX8_mostFrom_62 : decode cX8_mostFrom 62 = .ok (.bipush 6, 2) := by decide +kernel
theorem dX8_mostFrom_64 : decode cX8_mostFrom 64 = .ok (.invokevirtual 206, 3) := by decide +kernel
theorem dX8_mostFrom_67 : decode cX8_mostFrom 67 = .ok (.ifCond .ne 15, 3) := by decide +kernel
theorem dX8_mostFrom_70 : decode cX8_mostFrom 70 = .ok (.aload_n 0, 1) := by decide +kernel
theorem dX8_mostFrom_71 : decode cX8_mostFrom 71 = .ok (.iload_n 3, 1) := by decide +kernel
theorem dX8_mostFrom_72 : decode cX8_mostFrom 72 = .ok (.invokevirtual 274, 3) := by decide +kernel
theorem dX8_mostFrom_75 : decode cX8_mostFrom 75 = .ok (.ifCond .eq 7, 3) := by decide +kernel
theorem dX8_mostFrom_78 : decode cX8_mostFrom 78 = .ok (.iconst 1, 1) := by decide +kernel
theorem dX8_mostFrom_79 : decode cX8_mostFrom 79 = .ok (.goto 4, 3) := by decide +kernel
theorem dX8_mostFrom_82 : decode cX8_mostFrom 82 = .ok (.iconst 0, 1) := by decide +kernel
theorem dX8_mostFrom_83 : decode cX8_mostFrom 83 = .ok (.iadd, 1) := by decide +kernel
theorem dX8_mostFrom_84 : decode cX8_mostFrom 84 = .ok (.istore_n 2, 1) := by decide +kernel
theorem dX8_mostFrom_85 : decode cX8_mostFrom 85 = .ok (.iinc 3 1, 3) := by decide +kernel
theorem dX8_mostFrom_88 : decode cX8_mostFrom 88 = .ok (.goto (-39), 3) := by decide +kernel
theorem dX8_mostFrom_91 : decode cX8_mostFrom 91 = .ok (.iload_n 2, 1) := by decide +kernel
theorem dX8_mostFrom_92 : decode cX8_mostFrom 92 = .ok (.ireturn, 1) := by decide +kernel
theorem yv_X8_mostFrom : YV yX8_mostFrom cX8_mostFrom 4 (some .int) 1 := ⟨m1233, ms58, m9, m1234, ⟨by decide +kernel, by decide +kernel, by decide +kernel⟩, by decide⟩
noncomputable def f_X8_mostFrom_49 (q : Nat) : Nat → Int32 → Int32 → AH → Option (Int32 × AH)
  | 0, _, _, _ => none
  | n + 1, x2, x3, h => ck 1 100 (if (h (q + 4) (1 : Int32).toNatClampNeg) ≤ x3 then (some (x2, h)) else (bd (f_X8_of q x3 6 h) (fun v_3 h_2 => if v_3 = 0 then (bd (f_X8_putsOne q x3 h_2) (fun v_7 h_6 => if v_7 = 0 then (lt ((x2 + 0)) (fun v_8 => lt (x3 + 1) (fun v_9 => (f_X8_mostFrom_49 q n) v_8 v_9 h_6))) else (lt ((x2 + 1)) (fun v_10 => lt (x3 + 1) (fun v_11 => (f_X8_mostFrom_49 q n) v_10 v_11 h_6))))) else (lt ((x2 + 0)) (fun v_4 => lt (x3 + 1) (fun v_5 => (f_X8_mostFrom_49 q n) v_4 v_5 h_2))))))
set_option maxRecDepth 20000 in
set_option maxHeartbeats 4000000 in
theorem t_X8_mostFrom_49 {z : MC} {g : GC} {A : Nat → Prop} (F : Fx z cX8_mostFrom 4 RX8 (some .int) 6 g A) {q : Nat} (hq : (gL g)[q]? = some (.inl 8)) : ∀ (n : Nat) (x2 : Int32) (x3 : Int32) (h : AH), Snd z 4 g A (QF z g A mkI) 49 [(0, .ref (gad g q)), (2, .int x2), (3, .int x3)] [] h (f_X8_mostFrom_49 q n x2 x3 h) := by
  intro n
  induction n with
  | zero => intros; exact s_none
  | succ n ih =>
    intro x2 x3 h
    unfold f_X8_mostFrom_49
    refine s_iload_n F dX8_mostFrom_49 rfl 2 rfl ?_
    refine s_aload_n F dX8_mostFrom_50 rfl 0 rfl ?_
    have hw_1 := wf_ref F.2.2.2.2.2.2.1 hq 5 4 (.inr (0, 100)) rfl
    refine s_getr F ciX8 5 4 (.inr (0, 100)) hq (by decide) rfl rfl m898 dX8_mostFrom_51 ?_
    refine s_iconst F (v := 1) dX8_mostFrom_54 (by decide) ?_
    refine s_iald F hw_1 dX8_mostFrom_55 ?_
    refine s_icmp_ge F 91 dX8_mostFrom_56 (by decide) (fun _ => ?_) (fun _ => ?_)
    · refine s_iload_n F dX8_mostFrom_91 rfl 1 rfl ?_
      exact s_iret F dX8_mostFrom_92
    · refine s_iload_n F dX8_mostFrom_59 rfl 1 rfl ?_
      refine s_aload_n F dX8_mostFrom_60 rfl 0 rfl ?_
      refine s_iload_n F dX8_mostFrom_61 rfl 2 rfl ?_
      refine s_bipush F (v := 6) dX8_mostFrom_62 (by decide) ?_
      refine s_callVi (f := fun hh => f_X8_of q x3 6 hh) (As := [.int x3, .int 6]) F yv_X8_of (ct_X8_of z.2.1 g hq x3 6) (by decide) m1146 hq rfl rfl rfl (Nat.le_of_ble_eq_true rfl) dX8_mostFrom_64 (fun v_3 h_2 e_v_3 => ?_)
      refine s_if_ne F 82 dX8_mostFrom_67 (by decide) (fun _ => ?_) (fun _ => ?_)
      · refine s_iconst F (v := 0) dX8_mostFrom_82 (by decide) ?_
        refine s_iadd F dX8_mostFrom_83 ?_
        refine s_leti (fun v_4 => ?_)
        refine s_istore_n F (lv' := [(2, .int v_4), (0, .ref (gad g q)), (3, .int x3)]) dX8_mostFrom_84 rfl (by decide) rfl ?_
        refine s_iincv F dX8_mostFrom_85 2 rfl (by decide) (c := 1) (by decide) (fun v_5 => ?_)
        refine s_lv (lv' := [(3, .int v_5), (2, .int v_4), (0, .ref (gad g q))]) rfl ?_
        refine s_goto F 49 dX8_mostFrom_88 (by decide) ?_
        exact s_sub [2, 1, 0] rfl (ih v_4 v_5 h_2)
      · refine s_aload_n F dX8_mostFrom_70 rfl 0 rfl ?_
        refine s_iload_n F dX8_mostFrom_71 rfl 2 rfl ?_
        refine s_callVi (f := fun hh => f_X8_putsOne q x3 hh) (As := [.int x3]) F yv_X8_putsOne (ct_X8_putsOne z.2.1 g hq x3) (by decide) m1235 hq rfl rfl rfl (Nat.le_of_ble_eq_true rfl) dX8_mostFrom_72 (fun v_7 h_6 e_v_7 => ?_)
        refine s_if_eq F 82 dX8_mostFrom_75 (by decide) (fun _ => ?_) (fun _ => ?_)
        · refine s_iconst F (v := 0) dX8_mostFrom_82 (by decide) ?_
          refine s_iadd F dX8_mostFrom_83 ?_
          refine s_leti (fun v_8 => ?_)
          refine s_istore_n F (lv' := [(2, .int v_8), (0, .ref (gad g q)), (3, .int x3)]) dX8_mostFrom_84 rfl (by decide) rfl ?_
          refine s_iincv F dX8_mostFrom_85 2 rfl (by decide) (c := 1) (by decide) (fun v_9 => ?_)
          refine s_lv (lv' := [(3, .int v_9), (2, .int v_8), (0, .ref (gad g q))]) rfl ?_
          refine s_goto F 49 dX8_mostFrom_88 (by decide) ?_
          exact s_sub [2, 1, 0] rfl (ih v_8 v_9 h_6)
        · refine s_iconst F (v := 1) dX8_mostFrom_78 (by decide) ?_
          refine s_goto F 83 dX8_mostFrom_79 (by decide) ?_
          refine s_iadd F dX8_mostFrom_83 ?_
          refine s_leti (fun v_10 => ?_)
          refine s_istore_n F (lv' := [(2, .int v_10), (0, .ref (gad g q)), (3, .int x3)]) dX8_mostFrom_84 rfl (by decide) rfl ?_
          refine s_iincv F dX8_mostFrom_85 2 rfl (by decide) (c := 1) (by decide) (fun v_11 => ?_)
          refine s_lv (lv' := [(3, .int v_11), (2, .int v_10), (0, .ref (gad g q))]) rfl ?_
          refine s_goto F 49 dX8_mostFrom_88 (by decide) ?_
          exact s_sub [2, 1, 0] rfl (ih v_10 v_11 h_6)
noncomputable def f_X8_mostFrom_25 (q : Nat) : Nat → Int32 → Int32 → AH → Option (Int32 × AH)
  | 0, _, _, _ => none
  | n + 1, x1, x2, h => if (6 : Int32) ≤ x2 then (f_X8_mostFrom_49 q fu 0 x1 h) else (ck x2 6 (lt (hset h (q + 12) (x2 : Int32).toNatClampNeg (-1000000)) (fun h_2 => lt (x2 + 1) (fun v_3 => (f_X8_mostFrom_25 q n) x1 v_3 h_2))))
set_option maxRecDepth 20000 in
set_option maxHeartbeats 4000000 in
theorem t_X8_mostFrom_25 {z : MC} {g : GC} {A : Nat → Prop} (F : Fx z cX8_mostFrom 4 RX8 (some .int) 6 g A) {q : Nat} (hq : (gL g)[q]? = some (.inl 8)) : ∀ (n : Nat) (x1 : Int32) (x2 : Int32) (h : AH), Snd z 4 g A (QF z g A mkI) 25 [(0, .ref (gad g q)), (1, .int x1), (2, .int x2)] [] h (f_X8_mostFrom_25 q n x1 x2 h) := by
  intro n
  induction n with
  | zero => intros; exact s_none
  | succ n ih =>
    intro x1 x2 h
    unfold f_X8_mostFrom_25
    refine s_iload_n F dX8_mostFrom_25 rfl 2 rfl ?_
    refine s_bipush F (v := 6) dX8_mostFrom_26 (by decide) ?_
    refine s_icmp_ge F 45 dX8_mostFrom_28 (by decide) (fun _ => ?_) (fun _ => ?_)
    · refine s_iconst F (v := 0) dX8_mostFrom_45 (by decide) ?_
      refine s_istore_n F (lv' := [(2, .int 0), (0, .ref (gad g q)), (1, .int x1)]) dX8_mostFrom_46 rfl (by decide) rfl ?_
      refine s_iload_n F dX8_mostFrom_47 rfl 2 rfl ?_
      refine s_istore_n F (lv' := [(3, .int x1), (2, .int 0), (0, .ref (gad g q)), (1, .int x1)]) dX8_mostFrom_48 rfl (by decide) rfl ?_
      exact s_sub [2, 1, 0] rfl (t_X8_mostFrom_49 F hq fu 0 x1 h)
    · refine s_aload_n F dX8_mostFrom_31 rfl 0 rfl ?_
      have hw_1 := wf_ref F.2.2.2.2.2.2.1 hq 24 12 (.inr (0, 6)) rfl
      refine s_getr F ciX8 24 12 (.inr (0, 6)) hq (by decide) rfl rfl m917 dX8_mostFrom_32 ?_
      refine s_iload_n F dX8_mostFrom_35 rfl 2 rfl ?_
      refine s_ldc F (v := (-1000000)) dX8_mostFrom_36 m1050 ?_
      refine s_iast F hw_1 dX8_mostFrom_38 ?_
      refine s_letH (fun h_2 => ?_)
      refine s_iincv F dX8_mostFrom_39 2 rfl (by decide) (c := 1) (by decide) (fun v_3 => ?_)
      refine s_lv (lv' := [(2, .int v_3), (0, .ref (gad g q)), (1, .int x1)]) rfl ?_
      refine s_goto F 25 dX8_mostFrom_42 (by decide) ?_
      exact s_sub [1, 2, 0] rfl (ih x1 v_3 h_2)
noncomputable def f_X8_mostFrom_2 (q : Nat) : Nat → Int32 → Int32 → AH → Option (Int32 × AH)
  | 0, _, _, _ => none
  | n + 1, x1, x2, h => if (144 : Int32) ≤ x2 then (f_X8_mostFrom_25 q fu x1 0 h) else (ck x2 144 (lt (hset h (q + 8) (x2 : Int32).toNatClampNeg (-1000000)) (fun h_2 => lt (x2 + 1) (fun v_3 => (f_X8_mostFrom_2 q n) x1 v_3 h_2))))
set_option maxRecDepth 20000 in
set_option maxHeartbeats 4000000 in
theorem t_X8_mostFrom_2 {z : MC} {g : GC} {A : Nat → Prop} (F : Fx z cX8_mostFrom 4 RX8 (some .int) 6 g A) {q : Nat} (hq : (gL g)[q]? = some (.inl 8)) : ∀ (n : Nat) (x1 : Int32) (x2 : Int32) (h : AH), Snd z 4 g A (QF z g A mkI) 2 [(0, .ref (gad g q)), (1, .int x1), (2, .int x2)] [] h (f_X8_mostFrom_2 q n x1 x2 h) := by
  intro n
  induction n with
  | zero => intros; exact s_none
  | succ n ih =>
    intro x1 x2 h
    unfold f_X8_mostFrom_2
    refine s_iload_n F dX8_mostFrom_2 rfl 2 rfl ?_
    refine s_sipush F (v := 144) dX8_mostFrom_3 (by decide) ?_
    refine s_icmp_ge F 23 dX8_mostFrom_6 (by decide) (fun _ => ?_) (fun _ => ?_)
    · refine s_iconst F (v := 0) dX8_mostFrom_23 (by decide) ?_
      refine s_istore_n F (lv' := [(2, .int 0), (0, .ref (gad g q)), (1, .int x1)]) dX8_mostFrom_24 rfl (by decide) rfl ?_
      exact s_sub [1, 2, 0] rfl (t_X8_mostFrom_25 F hq fu x1 0 h)
    · refine s_aload_n F dX8_mostFrom_9 rfl 0 rfl ?_
      have hw_1 := wf_ref F.2.2.2.2.2.2.1 hq 20 8 (.inr (0, 144)) rfl
      refine s_getr F ciX8 20 8 (.inr (0, 144)) hq (by decide) rfl rfl m913 dX8_mostFrom_10 ?_
      refine s_iload_n F dX8_mostFrom_13 rfl 2 rfl ?_
      refine s_ldc F (v := (-1000000)) dX8_mostFrom_14 m1050 ?_
      refine s_iast F hw_1 dX8_mostFrom_16 ?_
      refine s_letH (fun h_2 => ?_)
      refine s_iincv F dX8_mostFrom_17 2 rfl (by decide) (c := 1) (by decide) (fun v_3 => ?_)
      refine s_lv (lv' := [(2, .int v_3), (0, .ref (gad g q)), (1, .int x1)]) rfl ?_
      refine s_goto F 2 dX8_mostFrom_20 (by decide) ?_
      exact s_sub [1, 2, 0] rfl (ih x1 v_3 h_2)
noncomputable def f_X8_mostFrom (q : Nat) (x1 : Int32) (h : AH) : Option (Int32 × AH) := f_X8_mostFrom_2 q fu x1 0 h
set_option maxRecDepth 20000 in
set_option maxHeartbeats 4000000 in
theorem ct_X8_mostFrom (l : Launch) (g : GC) {q : Nat} (hq : (gL g)[q]? = some (.inl 8)) (x1 : Int32) : Ct l yX8_mostFrom cX8_mostFrom 4 (some .int) 6 [.ref (gad g q), .int x1] g mkI (fun h => f_X8_mostFrom q x1 h) := by
  refine Ct.of (by decide +kernel) (Nat.le_of_ble_eq_true rfl) (fun z A h _ F => ?_)
  show Snd z 4 g A (QF z g A mkI) 0 [(0, .ref (gad g q)), (1, .int x1)] [] h (f_X8_mostFrom q x1 h)
  unfold f_X8_mostFrom
  refine s_iconst F (v := 0) dX8_mostFrom_0 (by decide) ?_
  refine s_istore_n F (lv' := [(2, .int 0), (0, .ref (gad g q)), (1, .int x1)]) dX8_mostFrom_1 rfl (by decide) rfl ?_
  exact s_sub [1, 2, 0] rfl (t_X8_mostFrom_2 F hq fu x1 0 h)
theorem dX8_firstOf_0 : decode cX8_firstOf 0 = .ok (.aload_n 0, 1) := by decide +kernel
theorem dX8_firstOf_1 : decode cX8_firstOf 1 = .ok (.iload_n 1, 1) := by decide +kernel
theorem dX8_firstOf_2 : decode cX8_firstOf 2 = .ok (.bipush 6, 2) := by decide +kernel
theorem dX8_firstOf_4 : decode cX8_firstOf 4 = .ok (.invokevirtual 206, 3) := by decide +kernel
theorem dX8_firstOf_7 : decode cX8_firstOf 7 = .ok (.iconst 1, 1) := by decide +kernel
theorem dX8_firstOf_8 : decode cX8_firstOf 8 = .ok (.if_icmp .ne 6, 3) := by decide +kernel
theorem dX8_firstOf_11 : decode cX8_firstOf 11 = .ok (.ldc 101, 2) := by decide +kernel
theorem dX8_firstOf_13 : decode cX8_firstOf 13 = .ok (.ireturn, 1) := by decide +kernel
theorem dX8_firstOf_14 : decode cX8_firstOf 14 = .ok (.iconst 0, 1) := by decide +kernel
theorem dX8_firstOf_15 : decode cX8_firstOf 15 = .ok (.istore_n 3, 1) := by decide +kernel
theorem dX8_firstOf_16 : decode cX8_firstOf 16 = .ok (.iload_n 3, 1) := by decide +kernel
theorem dX8_firstOf_17 : decode cX8_firstOf 17 = .ok (.bipush 72, 2) := by decide +kernel
theorem dX8_firstOf_19 : decode cX8_firstOf 19 = .ok (.if_icmp .ge 66, 3) := by decide +kernel
theorem dX8_firstOf_22 : decode cX8_firstOf 22 = .ok (.bipush 72, 2) := by decide +kernel
theorem dX8_firstOf_24 : decode cX8_firstOf 24 = .ok (.aload_n 0, 1) := by decide +kernel
theorem dX8_firstOf_25 : decode cX8_firstOf 25 = .ok (.iload_n 1, 1) := by decide +kernel
theorem dX8_firstOf_26 : decode cX8_firstOf 26 = .ok (.invokevirtual 219, 3) := by decide +kernel
theorem dX8_firstOf_29 : decode cX8_firstOf 29 = .ok (.imul, 1) := by decide +kernel
theorem dX8_firstOf_30 : decode cX8_firstOf 30 = .ok (.iload_n 3, 1) := by decide +kernel
theorem dX8_firstOf_31 : decode cX8_firstOf 31 = .ok (.iadd, 1) := by decide +kernel
theorem dX8_firstOf_32 : decode cX8_firstOf 32 = .ok (.istore 4, 2) := by decide +kernel
theorem dX8_firstOf_34 : decode cX8_firstOf 34 = .ok (.iload_n 2, 1) := by decide +kernel
theorem dX8_firstOf_35 : decode cX8_firstOf 35 = .ok (.ifCond .le 44, 3) := by decide +kernel
theorem dX8_firstOf_38 : decode cX8_firstOf 38 = .ok (.aload_n 0, 1) := by decide +kernel
theorem dX8_firstOf_39 : decode cX8_firstOf 39 = .ok (.iload_n 1, 1) := by decide +kernel
theorem dX8_firstOf_40 : decode cX8_firstOf 40 = .ok (.iload 4, 2) := by decide +kernel
theorem dX8_firstOf_42 : decode cX8_firstOf 42 = .ok (.invokevirtual 268, 3) := by decide +kernel
theorem dX8_firstOf_45 : decode cX8_firstOf 45 = .ok (.ifCond .eq 34, 3) := by decide +kernel
theorem dX8_firstOf_48 : decode cX8_firstOf 48 = .ok (.aload_n 0, 1) := by decide +kernel
theorem dX8_firstOf_49 : decode cX8_firstOf 49 = .ok (.getfield 34, 3) := by decide +kernel
theorem dX8_firstOf_52 : decode cX8_firstOf 52 = .ok (.iload 4, 2) := by decide +kernel
theorem dX8_firstOf_54 : decode cX8_firstOf 54 = .ok (.iconst 1, 1) := by decide +kernel
theorem dX8_firstOf_55 : decode cX8_firstOf 55 = .ok (.bastore, 1) := by decide +kernel
theorem dX8_firstOf_56 : decode cX8_firstOf 56 = .ok (.aload_n 0, 1) := by decide +kernel
theorem dX8_firstOf_57 : decode cX8_firstOf 57 = .ok (.iload_n 1, 1) := by decide +kernel
theorem dX8_firstOf_58 : decode cX8_firstOf 58 = .ok (.iconst 1, 1) := by decide +kernel
theorem dX8_firstOf_59 : decode cX8_firstOf 59 = .ok (.iadd, 1) := by decide +kernel
theorem dX8_firstOf_60 : decode cX8_firstOf 60 = .ok (.invokevirtual 277, 3) := by decide +kernel
theorem dX8_firstOf_63 : decode cX8_firstOf 63 = .ok (.iload_n 2, 1) := by decide +kernel
theorem dX8_firstOf_64 : decode cX8_firstOf 64 = .ok (.iconst 1, 1) := by decide +kernel
theorem dX8_firstOf_65 : decode cX8_firstOf 65 = .ok (.isub, 1) := by decide +kernel
theorem dX8_firstOf_66 : decode cX8_firstOf 66 = .ok (.if_icmp .ne 5, 3) := by decide +kernel
theorem dX8_firstOf_69 : decode cX8_firstOf 69 = .ok (.iload_n 3, 1) := by decide +kernel
theorem dX8_firstOf_70 : decode cX8_firstOf 70 = .ok (.ireturn, 1) := by decide +kernel
theorem dX8_firstOf_71 : decode cX8_firstOf 71 = .ok (.aload_n 0, 1) := by decide +kernel
theorem dX8_firstOf_72 : decode cX8_firstOf 72 = .ok (.getfield 34, 3) := by decide +kernel
theorem dX8_firstOf_75 : decode cX8_firstOf 75 = .ok (.iload 4, 2) := by decide +kernel
theorem dX8_firstOf_77 : decode cX8_firstOf 77 = .ok (.iconst 0, 1) := by decide +kernel
theorem dX8_firstOf_78 : decode cX8_firstOf 78 = .ok (.bastore, 1) := by decide +kernel
theorem dX8_firstOf_79 : decode cX8_firstOf 79 = .ok (.iinc 3 1, 3) := by decide +kernel
theorem dX8_firstOf_82 : decode cX8_firstOf 82 = .ok (.goto (-66), 3) := by decide +kernel
theorem dX8_firstOf_85 : decode cX8_firstOf 85 = .ok (.ldc 101, 2) := by decide +kernel
theorem dX8_firstOf_87 : decode cX8_firstOf 87 = .ok (.ireturn, 1) := by decide +kernel
theorem yv_X8_firstOf : YV yX8_firstOf cX8_firstOf 5 (some .int) 2 := ⟨m1249, ms62, m9, m1250, ⟨by decide +kernel, by decide +kernel, by decide +kernel⟩, by decide⟩
noncomputable def f_X8_firstOf_16 (q : Nat) : Nat → Int32 → Int32 → Int32 → AH → Option (Int32 × AH)
  | 0, _, _, _, _ => none
  | n + 1, x1, x2, x3, h => if (72 : Int32) ≤ x3 then (some ((-1000000), h)) else (bd (f_X8_sideOf q x1 h) (fun v_2 h_1 => lt (((72 * v_2) + x3)) (fun v_3 => if x2 ≤ 0 then (lt (x3 + 1) (fun v_4 => (f_X8_firstOf_16 q n) x1 x2 v_4 h_1)) else (bd (f_X8_canBe q x1 v_3 h_1) (fun v_6 h_5 => if v_6 = 0 then (lt (x3 + 1) (fun v_7 => (f_X8_firstOf_16 q n) x1 x2 v_7 h_5)) else (ck v_3 144 (lt (hset h_5 (q + 9) (v_3 : Int32).toNatClampNeg (vp_nar .boolean 1)) (fun h_9 => bd (f_X8_mostFrom q (x1 + 1) h_9) (fun v_11 h_10 => if v_11 = (x2 - 1) then (some (x3, h_10)) else (ck v_3 144 (lt (hset h_10 (q + 9) (v_3 : Int32).toNatClampNeg (vp_nar .boolean 0)) (fun h_13 => lt (x3 + 1) (fun v_14 => (f_X8_firstOf_16 q n) x1 x2 v_14 h_13)))))))))))))
set_option maxRecDepth 20000 in
set_option maxHeartbeats 4000000 in
theorem t_X8_firstOf_16 {z : MC} {g : GC} {A : Nat → Prop} (F : Fx z cX8_firstOf 5 RX8 (some .int) 7 g A) {q : Nat} (hq : (gL g)[q]? = some (.inl 8)) : ∀ (n : Nat) (x1 : Int32) (x2 : Int32) (x3 : Int32) (h : AH), Snd z 5 g A (QF z g A mkI) 16 [(0, .ref (gad g q)), (1, .int x1), (2, .int x2), (3, .int x3)] [] h (f_X8_firstOf_16 q n x1 x2 x3 h) := by
  intro n
  induction n with
  | zero => intros; exact s_none
  | succ n ih =>
    intro x1 x2 x3 h
    unfold f_X8_firstOf_16
    refine s_iload_n F dX8_firstOf_16 rfl 3 rfl ?_
    refine s_bipush F (v := 72) dX8_firstOf_17 (by decide) ?_
    refine s_icmp_ge F 85 dX8_firstOf_19 (by decide) (fun _ => ?_) (fun _ => ?_)
    · refine s_ldc F (v := (-1000000)) dX8_firstOf_85 m1050 ?_
      exact s_iret F dX8_firstOf_87
    · refine s_bipush F (v := 72) dX8_firstOf_22 (by decide) ?_
      refine s_aload_n F dX8_firstOf_24 rfl 0 rfl ?_
      refine s_iload_n F dX8_firstOf_25 rfl 1 rfl ?_
      refine s_callVi (f := fun hh => f_X8_sideOf q x1 hh) (As := [.int x1]) F yv_X8_sideOf (ct_X8_sideOf z.2.1 g hq x1) (by decide) m1142 hq rfl rfl rfl (Nat.le_of_ble_eq_true rfl) dX8_firstOf_26 (fun v_2 h_1 e_v_2 => ?_)
      refine s_imul F dX8_firstOf_29 ?_
      refine s_iload_n F dX8_firstOf_30 rfl 3 rfl ?_
      refine s_iadd F dX8_firstOf_31 ?_
      refine s_leti (fun v_3 => ?_)
      refine s_istore F (lv' := [(4, .int v_3), (0, .ref (gad g q)), (1, .int x1), (2, .int x2), (3, .int x3)]) dX8_firstOf_32 (by decide) rfl ?_
      refine s_iload_n F dX8_firstOf_34 rfl 3 rfl ?_
      refine s_if_le F 79 dX8_firstOf_35 (by decide) (fun _ => ?_) (fun _ => ?_)
      · refine s_iincv F dX8_firstOf_79 4 rfl (by decide) (c := 1) (by decide) (fun v_4 => ?_)
        refine s_lv (lv' := [(3, .int v_4), (4, .int v_3), (0, .ref (gad g q)), (1, .int x1), (2, .int x2)]) rfl ?_
        refine s_goto F 16 dX8_firstOf_82 (by decide) ?_
        exact s_sub [2, 3, 4, 0] rfl (ih x1 x2 v_4 h_1)
      · refine s_aload_n F dX8_firstOf_38 rfl 1 rfl ?_
        refine s_iload_n F dX8_firstOf_39 rfl 2 rfl ?_
        refine s_iload F dX8_firstOf_40 0 rfl ?_
        refine s_callVi (f := fun hh => f_X8_canBe q x1 v_3 hh) (As := [.int x1, .int v_3]) F yv_X8_canBe (ct_X8_canBe z.2.1 g hq x1 v_3) (by decide) m1239 hq rfl rfl rfl (Nat.le_of_ble_eq_true rfl) dX8_firstOf_42 (fun v_6 h_5 e_v_6 => ?_)
        refine s_if_eq F 79 dX8_firstOf_45 (by decide) (fun _ => ?_) (fun _ => ?_)
        · refine s_iincv F dX8_firstOf_79 4 rfl (by decide) (c := 1) (by decide) (fun v_7 => ?_)
          refine s_lv (lv' := [(3, .int v_7), (4, .int v_3), (0, .ref (gad g q)), (1, .int x1), (2, .int x2)]) rfl ?_
          refine s_goto F 16 dX8_firstOf_82 (by decide) ?_
          exact s_sub [2, 3, 4, 0] rfl (ih x1 x2 v_7 h_5)
        · refine s_aload_n F dX8_firstOf_48 rfl 1 rfl ?_
          have hw_8 := wf_ref F.2.2.2.2.2.2.1 hq 21 9 (.inr (2, 144)) rfl
          refine s_getr F ciX8 21 9 (.inr (2, 144)) hq (by decide) rfl rfl m914 dX8_firstOf_49 ?_
          refine s_iload F dX8_firstOf_52 0 rfl ?_
          refine s_iconst F (v := 1) dX8_firstOf_54 (by decide) ?_
          refine s_zast F hw_8 dX8_firstOf_55 ?_
          refine s_letH (fun h_9 => ?_)
          refine s_aload_n F dX8_firstOf_56 rfl 1 rfl ?_
          refine s_iload_n F dX8_firstOf_57 rfl 2 rfl ?_
          refine s_iconst F (v := 1) dX8_firstOf_58 (by decide) ?_
          refine s_iadd F dX8_firstOf_59 ?_
          refine s_callVi (f := fun hh => f_X8_mostFrom q (x1 + 1) hh) (As := [.int (x1 + 1)]) F yv_X8_mostFrom (ct_X8_mostFrom z.2.1 g hq (x1 + 1)) (by decide) m1231 hq rfl rfl rfl (Nat.le_of_ble_eq_true rfl) dX8_firstOf_60 (fun v_11 h_10 e_v_11 => ?_)
          refine s_iload_n F dX8_firstOf_63 rfl 3 rfl ?_
          refine s_iconst F (v := 1) dX8_firstOf_64 (by decide) ?_
          refine s_isub F dX8_firstOf_65 ?_
          refine s_icmp_ne F 71 dX8_firstOf_66 (by decide) (fun _ => ?_) (fun _ => ?_)
          · refine s_aload_n F dX8_firstOf_71 rfl 1 rfl ?_
            have hw_12 := wf_ref F.2.2.2.2.2.2.1 hq 21 9 (.inr (2, 144)) rfl
            refine s_getr F ciX8 21 9 (.inr (2, 144)) hq (by decide) rfl rfl m914 dX8_firstOf_72 ?_
            refine s_iload F dX8_firstOf_75 0 rfl ?_
            refine s_iconst F (v := 0) dX8_firstOf_77 (by decide) ?_
            refine s_zast F hw_12 dX8_firstOf_78 ?_
            refine s_letH (fun h_13 => ?_)
            refine s_iincv F dX8_firstOf_79 4 rfl (by decide) (c := 1) (by decide) (fun v_14 => ?_)
            refine s_lv (lv' := [(3, .int v_14), (4, .int v_3), (0, .ref (gad g q)), (1, .int x1), (2, .int x2)]) rfl ?_
            refine s_goto F 16 dX8_firstOf_82 (by decide) ?_
            exact s_sub [2, 3, 4, 0] rfl (ih x1 x2 v_14 h_13)
          · refine s_iload_n F dX8_firstOf_69 rfl 4 rfl ?_
            exact s_iret F dX8_firstOf_70
noncomputable def f_X8_firstOf (q : Nat) (x1 : Int32) (x2 : Int32) (h : AH) : Option (Int32 × AH) := bd (f_X8_of q x1 6 h) (fun v_2 h_1 => if v_2 = 1 then (some ((-1000000), h_1)) else (f_X8_firstOf_16 q fu x1 x2 0 h_1))
set_option maxRecDepth 20000 in
set_option maxHeartbeats 4000000 in
theorem ct_X8_firstOf (l : Launch) (g : GC) {q : Nat} (hq : (gL g)[q]? = some (.inl 8)) (x1 : Int32) (x2 : Int32) : Ct l yX8_firstOf cX8_firstOf 5 (some .int) 7 [.ref (gad g q), .int x1, .int x2] g mkI (fun h => f_X8_firstOf q x1 x2 h) := by
  refine Ct.of (by decide +kernel) (Nat.le_of_ble_eq_true rfl) (fun z A h _ F => ?_)
  show Snd z 5 g A (QF z g A mkI) 0 [(0, .ref (gad g q)), (1, .int x1), (2, .int x2)] [] h (f_X8_firstOf q x1 x2 h)
  unfold f_X8_firstOf
  refine s_aload_n F dX8_firstOf_0 rfl 0 rfl ?_
  refine s_iload_n F dX8_firstOf_1 rfl 1 rfl ?_
  refine s_bipush F (v := 6) dX8_firstOf_2 (by decide) ?_
  refine s_callVi (f := fun hh => f_X8_of q x1 6 hh) (As := [.int x1, .int 6]) F yv_X8_of (ct_X8_of z.2.1 g hq x1 6) (by decide) m1146 hq rfl rfl rfl (Nat.le_of_ble_eq_true rfl) dX8_firstOf_4 (fun v_2 h_1 e_v_2 => ?_)
  refine s_iconst F (v := 1) dX8_firstOf_7 (by decide) ?_
  refine s_icmp_ne F 14 dX8_firstOf_8 (by decide) (fun _ => ?_) (fun _ => ?_)
  · refine s_iconst F (v := 0) dX8_firstOf_14 (by decide) ?_
    refine s_istore_n F (lv' := [(3, .int 0), (0, .ref (gad g q)), (1, .int x1), (2, .int x2)]) dX8_firstOf_15 rfl (by decide) rfl ?_
    exact s_sub [1, 2, 3, 0] rfl (t_X8_firstOf_16 F hq fu x1 x2 0 h_1)
  · refine s_ldc F (v := (-1000000)) dX8_firstOf_11 m1050 ?_
    exact s_iret F dX8_firstOf_13
theorem dX8_layCharters_0 : decode cX8_layCharters 0 = .ok (.iconst 0, 1) := by decide +kernel
theorem dX8_layCharters_1 : decode cX8_layCharters 1 = .ok (.istore_n 1, 1) := by decide +kernel
theorem dX8_layCharters_2 : decode cX8_layCharters 2 = .ok (.iload_n 1, 1) := by decide +kernel
theorem dX8_layCharters_3 : decode cX8_layCharters 3 = .ok (.aload_n 0, 1) := by decide +kernel
theorem dX8_layCharters_4 : decode cX8_layCharters 4 = .ok (.getfield 19, 3) := by decide +kernel
theorem dX8_layCharters_7 : decode cX8_layCharters 7 = .ok (.iconst 0, 1) := by decide +kernel
theorem dX8_layCharters_8 : decode cX8_layCharters 8 = .ok (.iaload, 1) := by decide +kernel
theorem dX8_layCharters_9 : decode cX8_layCharters 9 = .ok (.if_icmp .ge 21, 3) := by decide +kernel
theorem dX8_layCharters_12 : decode cX8_layCharters 12 = .ok (.aload_n 0, 1) := by decide +kernel
theorem dX8_layCharters_13 : decode cX8_layCharters 13 = .ok (.getfield 50, 3) := by decide +kernel
theorem dX8_layCharters_16 : decode cX8_layCharters 16 = .ok (.iload_n 1, 1) := by decide +kernel
theorem dX8_layCharters_17 : decode cX8_layCharters 17 = .ok (.aload_n 0, 1) := by decide +kernel
theorem dX8_layCharters_18 : decode cX8_layCharters 18 = .ok (.iload_n 1, 1) := by decide +kernel
theorem dX8_layCharters_19 : decode cX8_layCharters 19 = .ok (.iconst 0, 1) := by decide +kernel
theorem dX8_layCharters_20 : decode cX8_layCharters 20 = .ok (.invokevirtual 212, 3) := by decide +kernel
theorem dX8_layCharters_23 : decode cX8_layCharters 23 = .ok (.iastore, 1) := by decide +kernel
theorem dX8_layCharters_24 : decode cX8_layCharters 24 = .ok (.iinc 1 1, 3) := by decide +kernel
theorem dX8_layCharters_27 : decode cX8_layCharters 27 = .ok (.goto (-25), 3) := by decide +kernel
theorem dX8_layCharters_30 : decode cX8_layCharters 30 = .ok (.return_, 1) := by decide +kernel
theorem yv_X8_layCharters : YV yX8_layCharters cX8_layCharters 2 none 0 := ⟨m1225, ms56, m9, m1226, ⟨by decide +kernel, by decide +kernel, by decide +kernel⟩, by decide⟩
noncomputable def f_X8_layCharters_2 (q : Nat) : Nat → Int32 → AH → Option (Unit × AH)
  | 0, _, _ => none
  | n + 1, x1, h => ck 0 100 (if (h (q + 4) (0 : Int32).toNatClampNeg) ≤ x1 then (some ((), h)) else (bd (f_X8_archOf q x1 0 h) (fun v_4 h_3 => ck x1 6 (lt (hset h_3 (q + 14) (x1 : Int32).toNatClampNeg v_4) (fun h_5 => lt (x1 + 1) (fun v_6 => (f_X8_layCharters_2 q n) v_6 h_5))))))
set_option maxRecDepth 20000 in
set_option maxHeartbeats 4000000 in
theorem t_X8_layCharters_2 {z : MC} {g : GC} {A : Nat → Prop} (F : Fx z cX8_layCharters 2 RX8 none 2 g A) {q : Nat} (hq : (gL g)[q]? = some (.inl 8)) : ∀ (n : Nat) (x1 : Int32) (h : AH), Snd z 2 g A (QF z g A mkU) 2 [(0, .ref (gad g q)), (1, .int x1)] [] h (f_X8_layCharters_2 q n x1 h) := by
  intro n
  induction n with
  | zero => intros; exact s_none
  | succ n ih =>
    intro x1 h
    unfold f_X8_layCharters_2
    refine s_iload_n F dX8_layCharters_2 rfl 1 rfl ?_
    refine s_aload_n F dX8_layCharters_3 rfl 0 rfl ?_
    have hw_1 := wf_ref F.2.2.2.2.2.2.1 hq 5 4 (.inr (0, 100)) rfl
    refine s_getr F ciX8 5 4 (.inr (0, 100)) hq (by decide) rfl rfl m898 dX8_layCharters_4 ?_
    refine s_iconst F (v := 0) dX8_layCharters_7 (by decide) ?_
    refine s_iald F hw_1 dX8_layCharters_8 ?_
    refine s_icmp_ge F 30 dX8_layCharters_9 (by decide) (fun _ => ?_) (fun _ => ?_)
    · exact s_vret F dX8_layCharters_30
    · refine s_aload_n F dX8_layCharters_12 rfl 0 rfl ?_
      have hw_2 := wf_ref F.2.2.2.2.2.2.1 hq 28 14 (.inr (0, 6)) rfl
      refine s_getr F ciX8 28 14 (.inr (0, 6)) hq (by decide) rfl rfl m921 dX8_layCharters_13 ?_
      refine s_iload_n F dX8_layCharters_16 rfl 1 rfl ?_
      refine s_aload_n F dX8_layCharters_17 rfl 0 rfl ?_
      refine s_iload_n F dX8_layCharters_18 rfl 1 rfl ?_
      refine s_iconst F (v := 0) dX8_layCharters_19 (by decide) ?_
      refine s_callVi (f := fun hh => f_X8_archOf q x1 0 hh) (As := [.int x1, .int 0]) F yv_X8_archOf (ct_X8_archOf z.2.1 g hq x1 0) (by decide) m1154 hq rfl rfl rfl (Nat.le_of_ble_eq_true rfl) dX8_layCharters_20 (fun v_4 h_3 e_v_4 => ?_)
      refine s_iast F hw_2 dX8_layCharters_23 ?_
      refine s_letH (fun h_5 => ?_)
      refine s_iincv F dX8_layCharters_24 1 rfl (by decide) (c := 1) (by decide) (fun v_6 => ?_)
      refine s_lv (lv' := [(1, .int v_6), (0, .ref (gad g q))]) rfl ?_
      refine s_goto F 2 dX8_layCharters_27 (by decide) ?_
      exact s_sub [1, 0] rfl (ih v_6 h_5)
noncomputable def f_X8_layCharters (q : Nat) (h : AH) : Option (Unit × AH) := f_X8_layCharters_2 q fu 0 h
set_option maxRecDepth 20000 in
set_option maxHeartbeats 4000000 in
theorem ct_X8_layCharters (l : Launch) (g : GC) {q : Nat} (hq : (gL g)[q]? = some (.inl 8)) : Ct l yX8_layCharters cX8_layCharters 2 none 2 [.ref (gad g q)] g mkU (fun h => f_X8_layCharters q h) := by
  refine Ct.of (by decide +kernel) (Nat.le_of_ble_eq_true rfl) (fun z A h _ F => ?_)
  show Snd z 2 g A (QF z g A mkU) 0 [(0, .ref (gad g q))] [] h (f_X8_layCharters q h)
  unfold f_X8_layCharters
  refine s_iconst F (v := 0) dX8_layCharters_0 (by decide) ?_
  refine s_istore_n F (lv' := [(1, .int 0), (0, .ref (gad g q))]) dX8_layCharters_1 rfl (by decide) rfl ?_
  exact s_sub [1, 0] rfl (t_X8_layCharters_2 F hq fu 0 h)
theorem dX8_noneTaken_0 : decode cX8_noneTaken 0 = .ok (.iconst 0, 1) := by decide +kernel
theorem dX8_noneTaken_1 : decode cX8_noneTaken 1 = .ok (.istore_n 1, 1) := by decide +kernel
theorem dX8_noneTaken_2 : decode cX8_noneTaken 2 = .ok (.iload_n 1, 1) := by decide +kernel
theorem dX8_noneTaken_3 : decode cX8_noneTaken 3 = .ok (.sipush 144, 3) := by decide +kernel
theorem dX8_noneTaken_6 : decode cX8_noneTaken 6 = .ok (.if_icmp .ge 16, 3) := by decide +kernel
theorem dX8_noneTaken_9 : decode cX8_noneTaken 9 = .ok (.aload_n 0, 1) := by decide +kernel
theorem dX8_noneTaken_10 : decode cX8_noneTaken 10 = .ok (.getfield 34, 3) := by decide +kernel
theorem dX8_noneTaken_13 : decode cX8_noneTaken 13 = .ok (.iload_n 1, 1) := by decide +kernel
theorem dX8_noneTaken_14 : decode cX8_noneTaken 14 = .ok (.iconst 0, 1) := by decide +kernel
theorem dX8_noneTaken_15 : decode cX8_noneTaken 15 = .ok (.bastore, 1) := by decide +kernel
theorem dX8_noneTaken_16 : decode cX8_noneTaken 16 = .ok (.iinc 1 1, 3) := by decide +kernel
theorem dX8_noneTaken_19 : decode cX8_noneTaken 19 = .ok (.goto (-17), 3) := by decide +kernel
theorem dX8_noneTaken_22 : decode cX8_noneTaken 22 = .ok (.return_, 1) := by decide +kernel
theorem yv_X8_noneTaken : YV yX8_noneTaken cX8_noneTaken 2 none 0 := ⟨m1229, ms57, m9, m1230, ⟨by decide +kernel, by decide +kernel, by decide +kernel⟩, by decide⟩
noncomputable def f_X8_noneTaken_2 (q : Nat) : Nat → Int32 → AH → Option (Unit × AH)
  | 0, _, _ => none
  | n + 1, x1, h => if (144 : Int32) ≤ x1 then (some ((), h)) else (ck x1 144 (lt (hset h (q + 9) (x1 : Int32).toNatClampNeg (vp_nar .boolean 0)) (fun h_2 => lt (x1 + 1) (fun v_3 => (f_X8_noneTaken_2 q n) v_3 h_2))))
set_option maxRecDepth 20000 in
set_option maxHeartbeats 4000000 in
theorem t_X8_noneTaken_2 {z : MC} {g : GC} {A : Nat → Prop} (F : Fx z cX8_noneTaken 2 RX8 none 1 g A) {q : Nat} (hq : (gL g)[q]? = some (.inl 8)) : ∀ (n : Nat) (x1 : Int32) (h : AH), Snd z 2 g A (QF z g A mkU) 2 [(0, .ref (gad g q)), (1, .int x1)] [] h (f_X8_noneTaken_2 q n x1 h) := by
  intro n
  induction n with
  | zero => intros; exact s_none
  | succ n ih =>
    intro x1 h
    unfold f_X8_noneTaken_2
    refine s_iload_n F dX8_noneTaken_2 rfl 1 rfl ?_
    refine s_sipush F (v := 144) dX8_noneTaken_3 (by decide) ?_
    refine s_icmp_ge F 22 dX8_noneTaken_6 (by decide) (fun _ => ?_) (fun _ => ?_)
    · exact s_vret F dX8_noneTaken_22
    · refine s_aload_n F dX8_noneTaken_9 rfl 0 rfl ?_
      have hw_1 := wf_ref F.2.2.2.2.2.2.1 hq 21 9 (.inr (2, 144)) rfl
      refine s_getr F ciX8 21 9 (.inr (2, 144)) hq (by decide) rfl rfl m914 dX8_noneTaken_10 ?_
      refine s_iload_n F dX8_noneTaken_13 rfl 1 rfl ?_
      refine s_iconst F (v := 0) dX8_noneTaken_14 (by decide) ?_
      refine s_zast F hw_1 dX8_noneTaken_15 ?_
      refine s_letH (fun h_2 => ?_)
      refine s_iincv F dX8_noneTaken_16 1 rfl (by decide) (c := 1) (by decide) (fun v_3 => ?_)
      refine s_lv (lv' := [(1, .int v_3), (0, .ref (gad g q))]) rfl ?_
      refine s_goto F 2 dX8_noneTaken_19 (by decide) ?_
      exact s_sub [1, 0] rfl (ih v_3 h_2)
noncomputable def f_X8_noneTaken (q : Nat) (h : AH) : Option (Unit × AH) := f_X8_noneTaken_2 q fu 0 h
set_option maxRecDepth 20000 in
set_option maxHeartbeats 4000000 in
theorem ct_X8_noneTaken (l : Launch) (g : GC) {q : Nat} (hq : (gL g)[q]? = some (.inl 8)) : Ct l yX8_noneTaken cX8_noneTaken 2 none 1 [.ref (gad g q)] g mkU (fun h => f_X8_noneTaken q h) := by
  refine Ct.of (by decide +kernel) (Nat.le_of_ble_eq_true rfl) (fun z A h _ F => ?_)
  show Snd z 2 g A (QF z g A mkU) 0 [(0, .ref (gad g q))] [] h (f_X8_noneTaken q h)
  unfold f_X8_noneTaken
  refine s_iconst F (v := 0) dX8_noneTaken_0 (by decide) ?_
  refine s_istore_n F (lv' := [(1, .int 0), (0, .ref (gad g q))]) dX8_noneTaken_1 rfl (by decide) rfl ?_
  exact s_sub [1, 0] rfl (t_X8_noneTaken_2 F hq fu 0 h)
theorem dX8_most_0 : decode cX8_most 0 = .ok (.aload_n 0, 1) := by decide +kernel
theorem dX8_most_1 : decode cX8_most 1 = .ok (.iconst 0, 1) := by decide +kernel
theorem dX8_most_2 : decode cX8_most 2 = .ok (.putfield 65, 3) := by decide +kernel
theorem dX8_most_5 : decode cX8_most 5 = .ok (.aload_n 0, 1) := by decide +kernel
theorem dX8_most_6 : decode cX8_most 6 = .ok (.getfield 195, 3) := by decide +kernel
theorem dX8_most_9 : decode cX8_most 9 = .ok (.ifCond .ne 6, 3) := by decide +kernel
theorem dX8_most_12 : decode cX8_most 12 = .ok (.ldc 244, 2) := by decide +kernel
theorem dX8_most_14 : decode cX8_most 14 = .ok (.ireturn, 1) := by decide +kernel
theorem dX8_most_15 : decode cX8_most 15 = .ok (.iload_n 1, 1) := by decide +kernel
theorem dX8_most_16 : decode cX8_most 16 = .ok (.iload_n 2, 1) := by decide +kernel
theorem dX8_most_17 : decode cX8_most 17 = .ok (.invokestatic 280, 3) := by decide +kernel
theorem dX8_most_20 : decode cX8_most 20 = .ok (.ifCond .eq 23, 3) := by decide +kernel
theorem dX8_most_23 : decode cX8_most 23 = .ok (.iload_n 3, 1) := by decide +kernel
theorem dX8_most_24 : decode cX8_most 24 = .ok (.i2l, 1) := by decide +kernel
theorem dX8_most_25 : decode cX8_most 25 = .ok (.ldc2_w 283, 3) := by decide +kernel
theorem dX8_most_28 : decode cX8_most 28 = .ok (.aload_n 0, 1) := by decide +kernel
theorem dX8_most_29 : decode cX8_most 29 = .ok (.getfield 19, 3) := by decide +kernel
theorem dX8_most_32 : decode cX8_most 32 = .ok (.iconst 1, 1) := by decide +kernel
theorem dX8_most_33 : decode cX8_most 33 = .ok (.iaload, 1) := by decide +kernel
theorem dX8_most_34 : decode cX8_most 34 = .ok (.iconst 1, 1) := by decide +kernel
theorem dX8_most_35 : decode cX8_most 35 = .ok (.isub, 1) := by decide +kernel
theorem dX8_most_36 : decode cX8_most 36 = .ok (.i2l, 1) := by decide +kernel
theorem dX8_most_37 : decode cX8_most 37 = .ok (.invokestatic 75, 3) := by decide +kernel
theorem dX8_most_40 : decode cX8_most 40 = .ok (.ifCond .ne 6, 3) := by decide +kernel
theorem dX8_most_43 : decode cX8_most 43 = .ok (.ldc 85, 2) := by decide +kernel
theorem dX8_most_45 : decode cX8_most 45 = .ok (.ireturn, 1) := by decide +kernel
theorem dX8_most_46 : decode cX8_most 46 = .ok (.aload_n 0, 1) := by decide +kernel
theorem dX8_most_47 : decode cX8_most 47 = .ok (.iload_n 1, 1) := by decide +kernel
theorem dX8_most_48 : decode cX8_most 48 = .ok (.putfield 262, 3) := by decide +kernel
theorem dX8_most_51 : decode cX8_most 51 = .ok (.aload_n 0, 1) := by decide +kernel
theorem dX8_most_52 : decode cX8_most 52 = .ok (.iload_n 2, 1) := by decide +kernel
theorem dX8_most_53 : decode cX8_most 53 = .ok (.putfield 265, 3) := by decide +kernel
theorem dX8_most_56 : decode cX8_most 56 = .ok (.aload_n 0, 1) := by decide +kernel
theorem dX8_most_57 : decode cX8_most 57 = .ok (.invokevirtual 285, 3) := by decide +kernel
theorem dX8_most_60 : decode cX8_most 60 = .ok (.aload_n 0, 1) := by decide +kernel
theorem dX8_most_61 : decode cX8_most 61 = .ok (.invokevirtual 288, 3) := by decide +kernel
theorem dX8_most_64 : decode cX8_most 64 = .ok (.aload_n 0, 1) := by decide +kernel
theorem dX8_most_65 : decode cX8_most 65 = .ok (.iconst 0, 1) := by decide +kernel
theorem dX8_most_66 : decode cX8_most 66 = .ok (.invokevirtual 277, 3) := by decide +kernel
theorem dX8_most_69 : decode cX8_most 69 = .ok (.istore 4, 2) := by decide +kernel
theorem dX8_most_71 : decode cX8_most 71 = .ok (.iload_n 3, 1) := by decide +kernel
theorem dX8_most_72 : decode cX8_most 72 = .ok (.ifCond .ge 6, 3) := by decide +kernel
theorem dX8_most_75 : decode cX8_most 75 = .ok (.iload 4, 2) := by decide +kernel
theorem dX8_most_77 : decode cX8_most 77 = .ok (.ireturn, 1) := by decide +kernel
theorem dX8_most_78 : decode cX8_most 78 = .ok (.ldc 101, 2) := by decide +kernel
theorem dX8_most_80 : decode cX8_most 80 = .ok (.istore 5, 2) := by decide +kernel
theorem dX8_most_82 : decode cX8_most 82 = .ok (.iconst 0, 1) := by decide +kernel
theorem dX8_most_83 : decode cX8_most 83 = .ok (.istore 6, 2) := by decide +kernel
theorem dX8_most_85 : decode cX8_most 85 = .ok (.iload 6, 2) := by decide +kernel
theorem dX8_most_87 : decode cX8_most 87 = .ok (.iload_n 3, 1) := by decide +kernel
theorem dX8_most_88 : decode cX8_most 88 = .ok (.if_icmp .gt 36, 3) := by decide +kernel
theorem dX8_most_91 : decode cX8_most 91 = .ok (.aload_n 0, 1) := by decide +kernel
theorem dX8_most_92 : decode cX8_most 92 = .ok (.iload 6, 2) := by decide +kernel
theorem dX8_most_94 : decode cX8_most 94 = .ok (.iload 4, 2) := by decide +kernel
theorem dX8_most_96 : decode cX8_most 96 = .ok (.invokevirtual 291, 3) := by decide +kernel
theorem dX8_most_99 : decode cX8_most 99 = .ok (.istore 5, 2) := by decide +kernel
theorem dX8_most_101 : decode cX8_most 101 = .ok (.iload 4, 2) := by decide +kernel
theorem dX8_most_103 : decode cX8_most 103 = .ok (.iload 5, 2) := by decide +kernel
theorem dX8_most_105 : decode cX8_most 105 = .ok (.ldc 101, 2) := by decide +kernel
theorem dX8_most_107 : decode cX8_most 107 = .ok (.if_icmp .ne 7, 3) := by decide +kernel
theorem dX8_most_110 : decode cX8_most 110 = .ok (.iconst 0, 1) := by decide +kernel
theorem dX8_most_111 : decode cX8_most 111 = .ok (.goto 4, 3) := by decide +kernel
theorem dX8_most_114 : decode cX8_most 114 = .ok (.iconst 1, 1) := by decide +kernel
theorem dX8_most_115 : decode cX8_most 115 = .ok (.isub, 1) := by decide +kernel
theorem dX8_most_116 : decode cX8_most 116 = .ok (.istore 4, 2) := by decide +kernel
theorem dX8_most_118 : decode cX8_most 118 = .ok (.iinc 6 1, 3) := by decide +kernel
theorem dX8_most_121 : decode cX8_most 121 = .ok (.goto (-36), 3) := by decide +kernel
theorem dX8_most_124 : decode cX8_most 124 = .ok (.iload 5, 2) := by decide +kernel
theorem dX8_most_126 : decode cX8_most 126 = .ok (.ireturn, 1) := by decide +kernel
theorem yv_X8_most : YV yX8_most cX8_most 7 (some .int) 3 := ⟨m1216, m1217, m9, m1218, ⟨by decide +kernel, by decide +kernel, by decide +kernel⟩, by decide⟩
noncomputable def f_X8_most_85 (q : Nat) : Nat → Int32 → Int32 → Int32 → Int32 → AH → Option (Int32 × AH)
  | 0, _, _, _, _, _ => none
  | n + 1, x3, x4, x5, x6, h => if x3 < x6 then (some (x5, h)) else (bd (f_X8_firstOf q x6 x4 h) (fun v_2 h_1 => if v_2 = (-1000000) then (lt ((x4 - 0)) (fun v_5 => lt (x6 + 1) (fun v_6 => (f_X8_most_85 q n) x3 v_5 v_2 v_6 h_1))) else (lt ((x4 - 1)) (fun v_3 => lt (x6 + 1) (fun v_4 => (f_X8_most_85 q n) x3 v_3 v_2 v_4 h_1)))))
set_option maxRecDepth 20000 in
set_option maxHeartbeats 4000000 in
theorem t_X8_most_85 {z : MC} {g : GC} {A : Nat → Prop} (F : Fx z cX8_most 7 RX8 (some .int) 8 g A) {q : Nat} (hq : (gL g)[q]? = some (.inl 8)) : ∀ (n : Nat) (x3 : Int32) (x4 : Int32) (x5 : Int32) (x6 : Int32) (h : AH), Snd z 7 g A (QF z g A mkI) 85 [(0, .ref (gad g q)), (3, .int x3), (4, .int x4), (5, .int x5), (6, .int x6)] [] h (f_X8_most_85 q n x3 x4 x5 x6 h) := by
  intro n
  induction n with
  | zero => intros; exact s_none
  | succ n ih =>
    intro x3 x4 x5 x6 h
    unfold f_X8_most_85
    refine s_iload F dX8_most_85 4 rfl ?_
    refine s_iload_n F dX8_most_87 rfl 1 rfl ?_
    refine s_icmp_gt F 124 dX8_most_88 (by decide) (fun _ => ?_) (fun _ => ?_)
    · refine s_iload F dX8_most_124 3 rfl ?_
      exact s_iret F dX8_most_126
    · refine s_aload_n F dX8_most_91 rfl 0 rfl ?_
      refine s_iload F dX8_most_92 4 rfl ?_
      refine s_iload F dX8_most_94 2 rfl ?_
      refine s_callVi (f := fun hh => f_X8_firstOf q x6 x4 hh) (As := [.int x6, .int x4]) F yv_X8_firstOf (ct_X8_firstOf z.2.1 g hq x6 x4) (by decide) m1247 hq rfl rfl rfl (Nat.le_of_ble_eq_true rfl) dX8_most_96 (fun v_2 h_1 e_v_2 => ?_)
      refine s_istore F (lv' := [(5, .int v_2), (0, .ref (gad g q)), (3, .int x3), (4, .int x4), (6, .int x6)]) dX8_most_99 (by decide) rfl ?_
      refine s_iload F dX8_most_101 3 rfl ?_
      refine s_iload F dX8_most_103 0 rfl ?_
      refine s_ldc F (v := (-1000000)) dX8_most_105 m1050 ?_
      refine s_icmp_ne F 114 dX8_most_107 (by decide) (fun _ => ?_) (fun _ => ?_)
      · refine s_iconst F (v := 1) dX8_most_114 (by decide) ?_
        refine s_isub F dX8_most_115 ?_
        refine s_leti (fun v_3 => ?_)
        refine s_istore F (lv' := [(4, .int v_3), (5, .int v_2), (0, .ref (gad g q)), (3, .int x3), (6, .int x6)]) dX8_most_116 (by decide) rfl ?_
        refine s_iincv F dX8_most_118 4 rfl (by decide) (c := 1) (by decide) (fun v_4 => ?_)
        refine s_lv (lv' := [(6, .int v_4), (4, .int v_3), (5, .int v_2), (0, .ref (gad g q)), (3, .int x3)]) rfl ?_
        refine s_goto F 85 dX8_most_121 (by decide) ?_
        exact s_sub [3, 4, 1, 2, 0] rfl (ih x3 v_3 v_2 v_4 h_1)
      · refine s_iconst F (v := 0) dX8_most_110 (by decide) ?_
        refine s_goto F 115 dX8_most_111 (by decide) ?_
        refine s_isub F dX8_most_115 ?_
        refine s_leti (fun v_5 => ?_)
        refine s_istore F (lv' := [(4, .int v_5), (5, .int v_2), (0, .ref (gad g q)), (3, .int x3), (6, .int x6)]) dX8_most_116 (by decide) rfl ?_
        refine s_iincv F dX8_most_118 4 rfl (by decide) (c := 1) (by decide) (fun v_6 => ?_)
        refine s_lv (lv' := [(6, .int v_6), (4, .int v_5), (5, .int v_2), (0, .ref (gad g q)), (3, .int x3)]) rfl ?_
        refine s_goto F 85 dX8_most_121 (by decide) ?_
        exact s_sub [3, 4, 1, 2, 0] rfl (ih x3 v_5 v_2 v_6 h_1)
noncomputable def f_X8_most (q : Nat) (x1 : Int32) (x2 : Int32) (x3 : Int32) (h : AH) : Option (Int32 × AH) := lt (hset h q 0 0) (fun h_1 => if (h_1 q 7) = 0 then (some ((-1000002), h_1)) else (bd (f_X8_areHours x1 x2 h_1) (fun v_3 h_2 => if v_3 = 0 then (some ((-1000001), h_2)) else (ck 1 100 (bd (f_X8_in ((x3 : Int32).toInt64) (-1) ((((h_2 (q + 4) (1 : Int32).toNatClampNeg) - 1) : Int32).toInt64) h_2) (fun v_6 h_5 => if v_6 = 0 then (some ((-1000001), h_5)) else (lt (hset h_5 q 26 x1) (fun h_7 => lt (hset h_7 q 27 x2) (fun h_8 => bd (f_X8_layCharters q h_8) (fun _ h_9 => bd (f_X8_noneTaken q h_9) (fun _ h_11 => bd (f_X8_mostFrom q 0 h_11) (fun v_14 h_13 => if (0 : Int32) ≤ x3 then (f_X8_most_85 q fu x3 v_14 (-1000000) 0 h_13) else (some (v_14, h_13))))))))))))))
set_option maxRecDepth 20000 in
set_option maxHeartbeats 4000000 in
theorem ct_X8_most (l : Launch) (g : GC) {q : Nat} (hq : (gL g)[q]? = some (.inl 8)) (x1 : Int32) (x2 : Int32) (x3 : Int32) : Ct l yX8_most cX8_most 7 (some .int) 8 [.ref (gad g q), .int x1, .int x2, .int x3] g mkI (fun h => f_X8_most q x1 x2 x3 h) := by
  refine Ct.of (by decide +kernel) (Nat.le_of_ble_eq_true rfl) (fun z A h _ F => ?_)
  show Snd z 7 g A (QF z g A mkI) 0 [(0, .ref (gad g q)), (1, .int x1), (2, .int x2), (3, .int x3)] [] h (f_X8_most q x1 x2 x3 h)
  unfold f_X8_most
  refine s_aload_n F dX8_most_0 rfl 0 rfl ?_
  refine s_iconst F (v := 0) dX8_most_1 (by decide) ?_
  refine s_put F ciX8 (k := 0) hq (by decide) rfl rfl rfl rfl m893 dX8_most_2 ?_
  refine s_letH (fun h_1 => ?_)
  refine s_aload_n F dX8_most_5 rfl 0 rfl ?_
  refine s_geti F ciX8 7 hq (by decide) rfl rfl m900 dX8_most_6 ?_
  refine s_if_ne F 15 dX8_most_9 (by decide) (fun _ => ?_) (fun _ => ?_)
  · refine s_iload_n F dX8_most_15 rfl 1 rfl ?_
    refine s_iload_n F dX8_most_16 rfl 2 rfl ?_
    refine s_callSi (f := fun hh => f_X8_areHours x1 x2 hh) (As := [.int x1, .int x2]) F ys_X8_areHours (ct_X8_areHours z.2.1 g x1 x2) (by decide) m1219 rfl rfl (Nat.le_of_ble_eq_true rfl) dX8_most_17 (fun v_3 h_2 e_v_3 => ?_)
    refine s_if_eq F 43 dX8_most_20 (by decide) (fun _ => ?_) (fun _ => ?_)
    · refine s_ldc F (v := (-1000001)) dX8_most_43 m1009 ?_
      exact s_iret F dX8_most_45
    · refine s_iload_n F dX8_most_23 rfl 3 rfl ?_
      refine s_i2l F dX8_most_24 ?_
      refine s_ldc2 F (v := (-1)) dX8_most_25 m1222 ?_
      refine s_aload_n F dX8_most_28 rfl 0 rfl ?_
      have hw_4 := wf_ref F.2.2.2.2.2.2.1 hq 5 4 (.inr (0, 100)) rfl
      refine s_getr F ciX8 5 4 (.inr (0, 100)) hq (by decide) rfl rfl m898 dX8_most_29 ?_
      refine s_iconst F (v := 1) dX8_most_32 (by decide) ?_
      refine s_iald F hw_4 dX8_most_33 ?_
      refine s_iconst F (v := 1) dX8_most_34 (by decide) ?_
      refine s_isub F dX8_most_35 ?_
      refine s_i2l F dX8_most_36 ?_
      refine s_callSi (f := fun hh => f_X8_in ((x3 : Int32).toInt64) (-1) ((((h_2 (q + 4) (1 : Int32).toNatClampNeg) - 1) : Int32).toInt64) hh) (As := [.long ((x3 : Int32).toInt64), .long (-1), .long ((((h_2 (q + 4) (1 : Int32).toNatClampNeg) - 1) : Int32).toInt64)]) F ys_X8_in (ct_X8_in z.2.1 g ((x3 : Int32).toInt64) (-1) ((((h_2 (q + 4) (1 : Int32).toNatClampNeg) - 1) : Int32).toInt64)) (by decide) m1005 rfl rfl (Nat.le_of_ble_eq_true rfl) dX8_most_37 (fun v_6 h_5 e_v_6 => ?_)
      refine s_if_ne F 46 dX8_most_40 (by decide) (fun _ => ?_) (fun _ => ?_)
      · refine s_aload_n F dX8_most_46 rfl 0 rfl ?_
        refine s_iload_n F dX8_most_47 rfl 1 rfl ?_
        refine s_put F ciX8 (k := 26) hq (by decide) rfl rfl rfl rfl m919 dX8_most_48 ?_
        refine s_letH (fun h_7 => ?_)
        refine s_aload_n F dX8_most_51 rfl 0 rfl ?_
        refine s_iload_n F dX8_most_52 rfl 2 rfl ?_
        refine s_put F ciX8 (k := 27) hq (by decide) rfl rfl rfl rfl m920 dX8_most_53 ?_
        refine s_letH (fun h_8 => ?_)
        refine s_aload_n F dX8_most_56 rfl 0 rfl ?_
        refine s_callVu (f := fun hh => f_X8_layCharters q hh) (As := []) F yv_X8_layCharters (ct_X8_layCharters z.2.1 g hq) (by decide) m1223 hq rfl rfl rfl (Nat.le_of_ble_eq_true rfl) dX8_most_57 (fun _ h_9 e_v_10 => ?_)
        refine s_aload_n F dX8_most_60 rfl 0 rfl ?_
        refine s_callVu (f := fun hh => f_X8_noneTaken q hh) (As := []) F yv_X8_noneTaken (ct_X8_noneTaken z.2.1 g hq) (by decide) m1227 hq rfl rfl rfl (Nat.le_of_ble_eq_true rfl) dX8_most_61 (fun _ h_11 e_v_12 => ?_)
        refine s_aload_n F dX8_most_64 rfl 0 rfl ?_
        refine s_iconst F (v := 0) dX8_most_65 (by decide) ?_
        refine s_callVi (f := fun hh => f_X8_mostFrom q 0 hh) (As := [.int 0]) F yv_X8_mostFrom (ct_X8_mostFrom z.2.1 g hq 0) (by decide) m1231 hq rfl rfl rfl (Nat.le_of_ble_eq_true rfl) dX8_most_66 (fun v_14 h_13 e_v_14 => ?_)
        refine s_istore F (lv' := [(4, .int v_14), (0, .ref (gad g q)), (1, .int x1), (2, .int x2), (3, .int x3)]) dX8_most_69 (by decide) rfl ?_
        refine s_iload_n F dX8_most_71 rfl 4 rfl ?_
        refine s_if_ge F 78 dX8_most_72 (by decide) (fun _ => ?_) (fun _ => ?_)
        · refine s_ldc F (v := (-1000000)) dX8_most_78 m1050 ?_
          refine s_istore F (lv' := [(5, .int (-1000000)), (4, .int v_14), (0, .ref (gad g q)), (1, .int x1), (2, .int x2), (3, .int x3)]) dX8_most_80 (by decide) rfl ?_
          refine s_iconst F (v := 0) dX8_most_82 (by decide) ?_
          refine s_istore F (lv' := [(6, .int 0), (5, .int (-1000000)), (4, .int v_14), (0, .ref (gad g q)), (1, .int x1), (2, .int x2), (3, .int x3)]) dX8_most_83 (by decide) rfl ?_
          exact s_sub [3, 6, 2, 1, 0] rfl (t_X8_most_85 F hq fu x3 v_14 (-1000000) 0 h_13)
        · refine s_iload F dX8_most_75 0 rfl ?_
          exact s_iret F dX8_most_77
      · refine s_ldc F (v := (-1000001)) dX8_most_43 m1009 ?_
        exact s_iret F dX8_most_45
  · refine s_ldc F (v := (-1000002)) dX8_most_12 m1169 ?_
    exact s_iret F dX8_most_14
theorem dX8_swap_0 : decode cX8_swap 0 = .ok (.aload_n 0, 1) := by decide +kernel
theorem dX8_swap_1 : decode cX8_swap 1 = .ok (.getfield 50, 3) := by decide +kernel
theorem dX8_swap_4 : decode cX8_swap 4 = .ok (.iload_n 1, 1) := by decide +kernel
theorem dX8_swap_5 : decode cX8_swap 5 = .ok (.iaload, 1) := by decide +kernel
theorem dX8_swap_6 : decode cX8_swap 6 = .ok (.istore_n 3, 1) := by decide +kernel
theorem dX8_swap_7 : decode cX8_swap 7 = .ok (.aload_n 0, 1) := by decide +kernel
theorem dX8_swap_8 : decode cX8_swap 8 = .ok (.getfield 50, 3) := by decide +kernel
theorem dX8_swap_11 : decode cX8_swap 11 = .ok (.iload_n 1, 1) := by decide +kernel
theorem dX8_swap_12 : decode cX8_swap 12 = .ok (.aload_n 0, 1) := by decide +kernel
theorem dX8_swap_13 : decode cX8_swap 13 = .ok (.getfield 50, 3) := by decide +kernel
theorem dX8_swap_16 : decode cX8_swap 16 = .ok (.iload_n 2, 1) := by decide +kernel
theorem dX8_swap_17 : decode cX8_swap 17 = .ok (.iaload, 1) := by decide +kernel
theorem dX8_swap_18 : decode cX8_swap 18 = .ok (.iastore, 1) := by decide +kernel
theorem dX8_swap_19 : decode cX8_swap 19 = .ok (.aload_n 0, 1) := by decide +kernel
theorem dX8_swap_20 : decode cX8_swap 20 = .ok (.getfield 50, 3) := by decide +kernel
theorem dX8_swap_23 : decode cX8_swap 23 = .ok (.iload_n 2, 1) := by decide +kernel
theorem dX8_swap_24 : decode cX8_swap 24 = .ok (.iload_n 3, 1) := by decide +kernel
theorem dX8_swap_25 : decode cX8_swap 25 = .ok (.iastore, 1) := by decide +kernel
theorem dX8_swap_26 : decode cX8_swap 26 = .ok (.return_, 1) := by decide +kernel
theorem yv_X8_swap : YV yX8_swap cX8_swap 4 none 2 := ⟨m1261, ms64, m9, m1262, ⟨by decide +kernel, by decide +kernel, by decide +kernel⟩, by decide⟩
noncomputable def f_X8_swap (q : Nat) (x1 : Int32) (x2 : Int32) (h : AH) : Option (Unit × AH) := ck x1 6 (lt (h (q + 14) (x1 : Int32).toNatClampNeg) (fun v_2 => ck x2 6 (ck x1 6 (lt (hset h (q + 14) (x1 : Int32).toNatClampNeg (h (q + 14) (x2 : Int32).toNatClampNeg)) (fun h_5 => ck x2 6 (lt (hset h_5 (q + 14) (x2 : Int32).toNatClampNeg v_2) (fun h_7 => some ((), h_7))))))))
set_option maxRecDepth 20000 in
set_option maxHeartbeats 4000000 in
theorem ct_X8_swap (l : Launch) (g : GC) {q : Nat} (hq : (gL g)[q]? = some (.inl 8)) (x1 : Int32) (x2 : Int32) : Ct l yX8_swap cX8_swap 4 none 1 [.ref (gad g q), .int x1, .int x2] g mkU (fun h => f_X8_swap q x1 x2 h) := by
  refine Ct.of (by decide +kernel) (Nat.le_of_ble_eq_true rfl) (fun z A h _ F => ?_)
  show Snd z 4 g A (QF z g A mkU) 0 [(0, .ref (gad g q)), (1, .int x1), (2, .int x2)] [] h (f_X8_swap q x1 x2 h)
  unfold f_X8_swap
  refine s_aload_n F dX8_swap_0 rfl 0 rfl ?_
  have hw_1 := wf_ref F.2.2.2.2.2.2.1 hq 28 14 (.inr (0, 6)) rfl
  refine s_getr F ciX8 28 14 (.inr (0, 6)) hq (by decide) rfl rfl m921 dX8_swap_1 ?_
  refine s_iload_n F dX8_swap_4 rfl 1 rfl ?_
  refine s_iald F hw_1 dX8_swap_5 ?_
  refine s_leti (fun v_2 => ?_)
  refine s_istore_n F (lv' := [(3, .int v_2), (0, .ref (gad g q)), (1, .int x1), (2, .int x2)]) dX8_swap_6 rfl (by decide) rfl ?_
  refine s_aload_n F dX8_swap_7 rfl 1 rfl ?_
  have hw_3 := wf_ref F.2.2.2.2.2.2.1 hq 28 14 (.inr (0, 6)) rfl
  refine s_getr F ciX8 28 14 (.inr (0, 6)) hq (by decide) rfl rfl m921 dX8_swap_8 ?_
  refine s_iload_n F dX8_swap_11 rfl 2 rfl ?_
  refine s_aload_n F dX8_swap_12 rfl 1 rfl ?_
  have hw_4 := wf_ref F.2.2.2.2.2.2.1 hq 28 14 (.inr (0, 6)) rfl
  refine s_getr F ciX8 28 14 (.inr (0, 6)) hq (by decide) rfl rfl m921 dX8_swap_13 ?_
  refine s_iload_n F dX8_swap_16 rfl 3 rfl ?_
  refine s_iald F hw_4 dX8_swap_17 ?_
  refine s_iast F hw_3 dX8_swap_18 ?_
  refine s_letH (fun h_5 => ?_)
  refine s_aload_n F dX8_swap_19 rfl 1 rfl ?_
  have hw_6 := wf_ref F.2.2.2.2.2.2.1 hq 28 14 (.inr (0, 6)) rfl
  refine s_getr F ciX8 28 14 (.inr (0, 6)) hq (by decide) rfl rfl m921 dX8_swap_20 ?_
  refine s_iload_n F dX8_swap_23 rfl 3 rfl ?_
  refine s_iload_n F dX8_swap_24 rfl 0 rfl ?_
  refine s_iast F hw_6 dX8_swap_25 ?_
  refine s_letH (fun h_7 => ?_)
  exact s_vret F dX8_swap_26
theorem dX8_nextCharters_0 : decode cX8_nextCharters 0 = .ok (.aload_n 0, 1) := by decide +kernel
theorem dX8_nextCharters_1 : decode cX8_nextCharters 1 = .ok (.getfield 19, 3) := by decide +kernel
theorem dX8_nextCharters_4 : decode cX8_nextCharters 4 = .ok (.iconst 0, 1) := by decide +kernel
theorem dX8_nextCharters_5 : decode cX8_nextCharters 5 = .ok (.iaload, 1) := by decide +kernel
theorem dX8_nextCharters_6 : decode cX8_nextCharters 6 = .ok (.istore_n 1, 1) := by decide +kernel
theorem dX8_nextCharters_7 : decode cX8_nextCharters 7 = .ok (.iload_n 1, 1) := by decide +kernel
theorem dX8_nextCharters_8 : decode cX8_nextCharters 8 = .ok (.iconst 2, 1) := by decide +kernel
theorem dX8_nextCharters_9 : decode cX8_nextCharters 9 = .ok (.isub, 1) := by decide +kernel
theorem dX8_nextCharters_10 : decode cX8_nextCharters 10 = .ok (.istore_n 2, 1) := by decide +kernel
theorem dX8_nextCharters_11 : decode cX8_nextCharters 11 = .ok (.iload_n 2, 1) := by decide +kernel
theorem dX8_nextCharters_12 : decode cX8_nextCharters 12 = .ok (.ifCond .lt 26, 3) := by decide +kernel
theorem dX8_nextCharters_15 : decode cX8_nextCharters 15 = .ok (.aload_n 0, 1) := by decide +kernel
theorem dX8_nextCharters_16 : decode cX8_nextCharters 16 = .ok (.getfield 50, 3) := by decide +kernel
theorem dX8_nextCharters_19 : decode cX8_nextCharters 19 = .ok (.iload_n 2, 1) := by decide +kernel
theorem dX8_nextCharters_20 : decode cX8_nextCharters 20 = .ok (.iaload, 1) := by decide +kernel
theorem dX8_nextCharters_21 : decode cX8_nextCharters 21 = .ok (.aload_n 0, 1) := by decide +kernel
theorem dX8_nextCharters_22 : decode cX8_nextCharters 22 = .ok (.getfield 50, 3) := by decide +kernel
theorem dX8_nextCharters_25 : decode cX8_nextCharters 25 = .ok (.iload_n 2, 1) := by decide +kernel
theorem dX8_nextCharters_26 : decode cX8_nextCharters 26 = .ok (.iconst 1, 1) := by decide +kernel
theorem dX8_nextCharters_27 : decode cX8_nextCharters 27 = .ok (.iadd, 1) := by decide +kernel
theorem dX8_nextCharters_28 : decode cX8_nextCharters 28 = .ok (.iaload, 1) := by decide +kernel
theorem dX8_nextCharters_29 : decode cX8_nextCharters 29 = .ok (.if_icmp .lt 9, 3) := by decide +kernel
theorem dX8_nextCharters_32 : decode cX8_nextCharters 32 = .ok (.iinc 2 (-1), 3) := by decide +kernel
theorem dX8_nextCharters_35 : decode cX8_nextCharters 35 = .ok (.goto (-24), 3) := by decide +kernel
theorem dX8_nextCharters_38 : decode cX8_nextCharters 38 = .ok (.iload_n 2, 1) := by decide +kernel
theorem dX8_nextCharters_39 : decode cX8_nextCharters 39 = .ok (.ifCond .ge 5, 3) := by decide +kernel
theorem dX8_nextCharters_42 : decode cX8_nextCharters 42 = .ok (.iconst 0, 1) := by decide +kernel
theorem dX8_nextCharters_43 : decode cX8_nextCharters 43 = .ok (.ireturn, 1) := by decide +kernel
theorem dX8_nextCharters_44 : decode cX8_nextCharters 44 = .ok (.iload_n 1, 1) := by decide +kernel
theorem dX8_nextCharters_45 : decode cX8_nextCharters 45 = .ok (.iconst 1, 1) := by decide +kernel
theorem dX8_nextCharters_46 : decode cX8_nextCharters 46 = .ok (.isub, 1) := by decide +kernel
theorem dX8_nextCharters_47 : decode cX8_nextCharters 47 = .ok (.istore_n 3, 1) := by decide +kernel
theorem dX8_nextCharters_48 : decode cX8_nextCharters 48 = .ok (.aload_n 0, 1) := by decide +kernel
theorem dX8_nextCharters_49 : decode cX8_nextCharters 49 = .ok (.getfield 50, 3) := by decide +kernel
theorem dX8_nextCharters_52 : decode cX8_nextCharters 52 = .ok (.iload_n 3, 1) := by decide +kernel
theorem dX8_nextCharters_53 : decode cX8_nextCharters 53 = .ok (.iaload, 1) := by decide +kernel
theorem dX8_nextCharters_54 : decode cX8_nextCharters 54 = .ok (.aload_n 0, 1) := by decide +kernel
theorem dX8_nextCharters_55 : decode cX8_nextCharters 55 = .ok (.getfield 50, 3) := by decide +kernel
theorem dX8_nextCharters_58 : decode cX8_nextCharters 58 = .ok (.iload_n 2, 1) := by decide +kernel
theorem dX8_nextCharters_59 : decode cX8_nextCharters 59 = .ok (.iaload, 1) := by decide +kernel
theorem dX8_nextCharters_60 : decode cX8_nextCharters 60 = .ok (.if_icmp .gt 9, 3) := by decide +kernel
theorem dX8_nextCharters_63 : decode cX8_nextCharters 63 = .ok (.iinc 3 (-1), 3) := by decide +kernel
theorem dX8_nextCharters_66 : decode cX8_nextCharters 66 = .ok (.goto (-18), 3) := by decide +kernel
theorem dX8_nextCharters_69 : decode cX8_nextCharters 69 = .ok (.aload_n 0, 1) := by decide +kernel
theorem dX8_nextCharters_70 : decode cX8_nextCharters 70 = .ok (.iload_n 2, 1) := by decide +kernel
theorem dX8_nextCharters_71 : decode cX8_nextCharters 71 = .ok (.iload_n 3, 1) := by decide +kernel
theorem dX8_nextCharters_72 : decode cX8_nextCharters 72 = .ok (.invokevirtual 294, 3) := by decide +kernel
theorem dX8_nextCharters_75 : decode cX8_nextCharters 75 = .ok (.iload_n 1, 1) := by decide +kernel
theorem dX8_nextCharters_76 : decode cX8_nextCharters 76 = .ok (.iconst 1, 1) := by decide +kernel
theorem dX8_nextCharters_77 : decode cX8_nextCharters 77 = .ok (.isub, 1) := by decide +kernel
theorem dX8_nextCharters_78 : decode cX8_nextCharters 78 = .ok (.istore 4, 2) := by decide +kernel
theorem dX8_nextCharters_80 : decode cX8_nextCharters 80 = .ok (.iload_n 2, 1) := by decide +kernel
theorem dX8_nextCharters_81 : decode cX8_nextCharters 81 = .ok (.iconst 1, 1) := by decide +kernel
theorem dX8_nextCharters_82 : decode cX8_nextCharters 82 = .ok (.iadd, 1) := by decide +kernel
theorem dX8_nextCharters_83 : decode cX8_nextCharters 83 = .ok (.istore 5, 2) := by decide +kernel
theorem dX8_nextCharters_85 : decode cX8_nextCharters 85 = .ok (.iload 5, 2) := by decide +kernel
theorem dX8_nextCharters_87 : decode cX8_nextCharters 87 = .ok (.iload 4, 2) := by decide +kernel
theorem dX8_nextCharters_89 : decode cX8_nextCharters 89 = .ok (.if_icmp .ge 20, 3) := by decide +kernel
theorem dX8_nextCharters_92 : decode cX8_nextCharters 92 = .ok (.aload_n 0, 1) := by decide +kernel
theorem dX8_nextCharters_93 : decode cX8_nextCharters 93 = .ok (.iload 5, 2) := by decide +kernel
theorem dX8_nextCharters_95 : decode cX8_nextCharters 95 = .ok (.iload 4, 2) := by decide +kernel
theorem dX8_nextCharters_97 : decode cX8_nextCharters 97 = .ok (.invokevirtual 294, 3) := by decide +kernel
theorem dX8_nextCharters_100 : decode cX8_nextCharters 100 = .ok (.iinc 4 (-1), 3) := by decide +kernel
theorem dX8_nextCharters_103 : decode cX8_nextCharters 103 = .ok (.iinc 5 1, 3) := by decide +kernel
theorem dX8_nextCharters_106 : decode cX8_nextCharters 106 = .ok (.goto (-21), 3) := by decide +kernel
theorem dX8_nextCharters_109 : decode cX8_nextCharters 109 = .ok (.iconst 1, 1) := by decide +kernel
theorem dX8_nextCharters_110 : decode cX8_nextCharters 110 = .ok (.ireturn, 1) := by decide +kernel
theorem yv_X8_nextCharters : YV yX8_nextCharters cX8_nextCharters 6 (some .boolean) 0 := ⟨m1265, ms65, m9, m1266, ⟨by decide +kernel, by decide +kernel, by decide +kernel⟩, by decide⟩
noncomputable def f_X8_nextCharters_85 (q : Nat) : Nat → Int32 → Int32 → AH → Option (Int32 × AH)
  | 0, _, _, _ => none
  | n + 1, x4, x5, h => if x4 ≤ x5 then (some (1, h)) else (bd (f_X8_swap q x5 x4 h) (fun _ h_1 => lt (x4 + (-1)) (fun v_3 => lt (x5 + 1) (fun v_4 => (f_X8_nextCharters_85 q n) v_3 v_4 h_1))))
set_option maxRecDepth 20000 in
set_option maxHeartbeats 4000000 in
theorem t_X8_nextCharters_85 {z : MC} {g : GC} {A : Nat → Prop} (F : Fx z cX8_nextCharters 6 RX8 (some .boolean) 2 g A) {q : Nat} (hq : (gL g)[q]? = some (.inl 8)) : ∀ (n : Nat) (x4 : Int32) (x5 : Int32) (h : AH), Snd z 6 g A (QF z g A mkI) 85 [(0, .ref (gad g q)), (4, .int x4), (5, .int x5)] [] h (f_X8_nextCharters_85 q n x4 x5 h) := by
  intro n
  induction n with
  | zero => intros; exact s_none
  | succ n ih =>
    intro x4 x5 h
    unfold f_X8_nextCharters_85
    refine s_iload F dX8_nextCharters_85 2 rfl ?_
    refine s_iload F dX8_nextCharters_87 1 rfl ?_
    refine s_icmp_ge F 109 dX8_nextCharters_89 (by decide) (fun _ => ?_) (fun _ => ?_)
    · refine s_iconst F (v := 1) dX8_nextCharters_109 (by decide) ?_
      exact s_zret1 F (by decide) dX8_nextCharters_110
    · refine s_aload_n F dX8_nextCharters_92 rfl 0 rfl ?_
      refine s_iload F dX8_nextCharters_93 2 rfl ?_
      refine s_iload F dX8_nextCharters_95 1 rfl ?_
      refine s_callVu (f := fun hh => f_X8_swap q x5 x4 hh) (As := [.int x5, .int x4]) F yv_X8_swap (ct_X8_swap z.2.1 g hq x5 x4) (by decide) m1259 hq rfl rfl rfl (Nat.le_of_ble_eq_true rfl) dX8_nextCharters_97 (fun _ h_1 e_v_2 => ?_)
      refine s_iincv F dX8_nextCharters_100 1 rfl (by decide) (c := (-1)) (by decide) (fun v_3 => ?_)
      refine s_lv (lv' := [(4, .int v_3), (0, .ref (gad g q)), (5, .int x5)]) rfl ?_
      refine s_iincv F dX8_nextCharters_103 2 rfl (by decide) (c := 1) (by decide) (fun v_4 => ?_)
      refine s_lv (lv' := [(5, .int v_4), (4, .int v_3), (0, .ref (gad g q))]) rfl ?_
      refine s_goto F 85 dX8_nextCharters_106 (by decide) ?_
      exact s_sub [2, 1, 0] rfl (ih v_3 v_4 h_1)
noncomputable def f_X8_nextCharters_48 (q : Nat) : Nat → Int32 → Int32 → Int32 → AH → Option (Int32 × AH)
  | 0, _, _, _, _ => none
  | n + 1, x1, x2, x3, h => ck x3 6 (ck x2 6 (if (h (q + 14) (x2 : Int32).toNatClampNeg) < (h (q + 14) (x3 : Int32).toNatClampNeg) then (bd (f_X8_swap q x2 x3 h) (fun _ h_3 => lt ((x1 - 1)) (fun v_5 => lt ((x2 + 1)) (fun v_6 => f_X8_nextCharters_85 q fu v_5 v_6 h_3)))) else (lt (x3 + (-1)) (fun v_7 => (f_X8_nextCharters_48 q n) x1 x2 v_7 h))))
set_option maxRecDepth 20000 in
set_option maxHeartbeats 4000000 in
theorem t_X8_nextCharters_48 {z : MC} {g : GC} {A : Nat → Prop} (F : Fx z cX8_nextCharters 6 RX8 (some .boolean) 2 g A) {q : Nat} (hq : (gL g)[q]? = some (.inl 8)) : ∀ (n : Nat) (x1 : Int32) (x2 : Int32) (x3 : Int32) (h : AH), Snd z 6 g A (QF z g A mkI) 48 [(0, .ref (gad g q)), (1, .int x1), (2, .int x2), (3, .int x3)] [] h (f_X8_nextCharters_48 q n x1 x2 x3 h) := by
  intro n
  induction n with
  | zero => intros; exact s_none
  | succ n ih =>
    intro x1 x2 x3 h
    unfold f_X8_nextCharters_48
    refine s_aload_n F dX8_nextCharters_48 rfl 0 rfl ?_
    have hw_1 := wf_ref F.2.2.2.2.2.2.1 hq 28 14 (.inr (0, 6)) rfl
    refine s_getr F ciX8 28 14 (.inr (0, 6)) hq (by decide) rfl rfl m921 dX8_nextCharters_49 ?_
    refine s_iload_n F dX8_nextCharters_52 rfl 3 rfl ?_
    refine s_iald F hw_1 dX8_nextCharters_53 ?_
    refine s_aload_n F dX8_nextCharters_54 rfl 0 rfl ?_
    have hw_2 := wf_ref F.2.2.2.2.2.2.1 hq 28 14 (.inr (0, 6)) rfl
    refine s_getr F ciX8 28 14 (.inr (0, 6)) hq (by decide) rfl rfl m921 dX8_nextCharters_55 ?_
    refine s_iload_n F dX8_nextCharters_58 rfl 2 rfl ?_
    refine s_iald F hw_2 dX8_nextCharters_59 ?_
    refine s_icmp_gt F 69 dX8_nextCharters_60 (by decide) (fun _ => ?_) (fun _ => ?_)
    · refine s_aload_n F dX8_nextCharters_69 rfl 0 rfl ?_
      refine s_iload_n F dX8_nextCharters_70 rfl 2 rfl ?_
      refine s_iload_n F dX8_nextCharters_71 rfl 3 rfl ?_
      refine s_callVu (f := fun hh => f_X8_swap q x2 x3 hh) (As := [.int x2, .int x3]) F yv_X8_swap (ct_X8_swap z.2.1 g hq x2 x3) (by decide) m1259 hq rfl rfl rfl (Nat.le_of_ble_eq_true rfl) dX8_nextCharters_72 (fun _ h_3 e_v_4 => ?_)
      refine s_iload_n F dX8_nextCharters_75 rfl 1 rfl ?_
      refine s_iconst F (v := 1) dX8_nextCharters_76 (by decide) ?_
      refine s_isub F dX8_nextCharters_77 ?_
      refine s_leti (fun v_5 => ?_)
      refine s_istore F (lv' := [(4, .int v_5), (0, .ref (gad g q)), (1, .int x1), (2, .int x2), (3, .int x3)]) dX8_nextCharters_78 (by decide) rfl ?_
      refine s_iload_n F dX8_nextCharters_80 rfl 3 rfl ?_
      refine s_iconst F (v := 1) dX8_nextCharters_81 (by decide) ?_
      refine s_iadd F dX8_nextCharters_82 ?_
      refine s_leti (fun v_6 => ?_)
      refine s_istore F (lv' := [(5, .int v_6), (4, .int v_5), (0, .ref (gad g q)), (1, .int x1), (2, .int x2), (3, .int x3)]) dX8_nextCharters_83 (by decide) rfl ?_
      exact s_sub [2, 1, 0] rfl (t_X8_nextCharters_85 F hq fu v_5 v_6 h_3)
    · refine s_iincv F dX8_nextCharters_63 3 rfl (by decide) (c := (-1)) (by decide) (fun v_7 => ?_)
      refine s_lv (lv' := [(3, .int v_7), (0, .ref (gad g q)), (1, .int x1), (2, .int x2)]) rfl ?_
      refine s_goto F 48 dX8_nextCharters_66 (by decide) ?_
      exact s_sub [1, 2, 3, 0] rfl (ih x1 x2 v_7 h)
noncomputable def f_X8_nextCharters_38 (q : Nat) (x1 : Int32) (x2 : Int32) (h : AH) : Option (Int32 × AH) := if (0 : Int32) ≤ x2 then (lt ((x1 - 1)) (fun v_1 => f_X8_nextCharters_48 q fu x1 x2 v_1 h)) else (some (0, h))
set_option maxRecDepth 20000 in
set_option maxHeartbeats 4000000 in
theorem t_X8_nextCharters_38 {z : MC} {g : GC} {A : Nat → Prop} (F : Fx z cX8_nextCharters 6 RX8 (some .boolean) 2 g A) {q : Nat} (hq : (gL g)[q]? = some (.inl 8)) : ∀ (x1 : Int32) (x2 : Int32) (h : AH), Snd z 6 g A (QF z g A mkI) 38 [(0, .ref (gad g q)), (1, .int x1), (2, .int x2)] [] h (f_X8_nextCharters_38 q x1 x2 h) := by
  intro x1 x2 h
  unfold f_X8_nextCharters_38
  refine s_iload_n F dX8_nextCharters_38 rfl 2 rfl ?_
  refine s_if_ge F 44 dX8_nextCharters_39 (by decide) (fun _ => ?_) (fun _ => ?_)
  · refine s_iload_n F dX8_nextCharters_44 rfl 1 rfl ?_
    refine s_iconst F (v := 1) dX8_nextCharters_45 (by decide) ?_
    refine s_isub F dX8_nextCharters_46 ?_
    refine s_leti (fun v_1 => ?_)
    refine s_istore_n F (lv' := [(3, .int v_1), (0, .ref (gad g q)), (1, .int x1), (2, .int x2)]) dX8_nextCharters_47 rfl (by decide) rfl ?_
    exact s_sub [1, 2, 3, 0] rfl (t_X8_nextCharters_48 F hq fu x1 x2 v_1 h)
  · refine s_iconst F (v := 0) dX8_nextCharters_42 (by decide) ?_
    exact s_zret1 F (by decide) dX8_nextCharters_43
noncomputable def f_X8_nextCharters_11 (q : Nat) : Nat → Int32 → Int32 → AH → Option (Int32 × AH)
  | 0, _, _, _ => none
  | n + 1, x1, x2, h => if x2 < 0 then (f_X8_nextCharters_38 q x1 x2 h) else (ck x2 6 (lt ((x2 + 1)) (fun v_3 => ck v_3 6 (if (h (q + 14) (x2 : Int32).toNatClampNeg) < (h (q + 14) (v_3 : Int32).toNatClampNeg) then (f_X8_nextCharters_38 q x1 x2 h) else (lt (x2 + (-1)) (fun v_4 => (f_X8_nextCharters_11 q n) x1 v_4 h))))))
set_option maxRecDepth 20000 in
set_option maxHeartbeats 4000000 in
theorem t_X8_nextCharters_11 {z : MC} {g : GC} {A : Nat → Prop} (F : Fx z cX8_nextCharters 6 RX8 (some .boolean) 2 g A) {q : Nat} (hq : (gL g)[q]? = some (.inl 8)) : ∀ (n : Nat) (x1 : Int32) (x2 : Int32) (h : AH), Snd z 6 g A (QF z g A mkI) 11 [(0, .ref (gad g q)), (1, .int x1), (2, .int x2)] [] h (f_X8_nextCharters_11 q n x1 x2 h) := by
  intro n
  induction n with
  | zero => intros; exact s_none
  | succ n ih =>
    intro x1 x2 h
    unfold f_X8_nextCharters_11
    refine s_iload_n F dX8_nextCharters_11 rfl 2 rfl ?_
    refine s_if_lt F 38 dX8_nextCharters_12 (by decide) (fun _ => ?_) (fun _ => ?_)
    · exact s_sub [0, 1, 2] rfl (t_X8_nextCharters_38 F hq x1 x2 h)
    · refine s_aload_n F dX8_nextCharters_15 rfl 0 rfl ?_
      have hw_1 := wf_ref F.2.2.2.2.2.2.1 hq 28 14 (.inr (0, 6)) rfl
      refine s_getr F ciX8 28 14 (.inr (0, 6)) hq (by decide) rfl rfl m921 dX8_nextCharters_16 ?_
      refine s_iload_n F dX8_nextCharters_19 rfl 2 rfl ?_
      refine s_iald F hw_1 dX8_nextCharters_20 ?_
      refine s_aload_n F dX8_nextCharters_21 rfl 0 rfl ?_
      have hw_2 := wf_ref F.2.2.2.2.2.2.1 hq 28 14 (.inr (0, 6)) rfl
      refine s_getr F ciX8 28 14 (.inr (0, 6)) hq (by decide) rfl rfl m921 dX8_nextCharters_22 ?_
      refine s_iload_n F dX8_nextCharters_25 rfl 2 rfl ?_
      refine s_iconst F (v := 1) dX8_nextCharters_26 (by decide) ?_
      refine s_iadd F dX8_nextCharters_27 ?_
      refine s_leti (fun v_3 => ?_)
      refine s_iald F hw_2 dX8_nextCharters_28 ?_
      refine s_icmp_lt F 38 dX8_nextCharters_29 (by decide) (fun _ => ?_) (fun _ => ?_)
      · exact s_sub [0, 1, 2] rfl (t_X8_nextCharters_38 F hq x1 x2 h)
      · refine s_iincv F dX8_nextCharters_32 2 rfl (by decide) (c := (-1)) (by decide) (fun v_4 => ?_)
        refine s_lv (lv' := [(2, .int v_4), (0, .ref (gad g q)), (1, .int x1)]) rfl ?_
        refine s_goto F 11 dX8_nextCharters_35 (by decide) ?_
        exact s_sub [1, 2, 0] rfl (ih x1 v_4 h)
noncomputable def f_X8_nextCharters (q : Nat) (h : AH) : Option (Int32 × AH) := ck 0 100 (lt (h (q + 4) (0 : Int32).toNatClampNeg) (fun v_2 => lt ((v_2 - 2)) (fun v_3 => f_X8_nextCharters_11 q fu v_2 v_3 h)))
set_option maxRecDepth 20000 in
set_option maxHeartbeats 4000000 in
theorem ct_X8_nextCharters (l : Launch) (g : GC) {q : Nat} (hq : (gL g)[q]? = some (.inl 8)) : Ct l yX8_nextCharters cX8_nextCharters 6 (some .boolean) 2 [.ref (gad g q)] g mkI (fun h => f_X8_nextCharters q h) := by
  refine Ct.of (by decide +kernel) (Nat.le_of_ble_eq_true rfl) (fun z A h _ F => ?_)
  show Snd z 6 g A (QF z g A mkI) 0 [(0, .ref (gad g q))] [] h (f_X8_nextCharters q h)
  unfold f_X8_nextCharters
  refine s_aload_n F dX8_nextCharters_0 rfl 0 rfl ?_
  have hw_1 := wf_ref F.2.2.2.2.2.2.1 hq 5 4 (.inr (0, 100)) rfl
  refine s_getr F ciX8 5 4 (.inr (0, 100)) hq (by decide) rfl rfl m898 dX8_nextCharters_1 ?_
  refine s_iconst F (v := 0) dX8_nextCharters_4 (by decide) ?_
  refine s_iald F hw_1 dX8_nextCharters_5 ?_
  refine s_leti (fun v_2 => ?_)
  refine s_istore_n F (lv' := [(1, .int v_2), (0, .ref (gad g q))]) dX8_nextCharters_6 rfl (by decide) rfl ?_
  refine s_iload_n F dX8_nextCharters_7 rfl 0 rfl ?_
  refine s_iconst F (v := 2) dX8_nextCharters_8 (by decide) ?_
  refine s_isub F dX8_nextCharters_9 ?_
  refine s_leti (fun v_3 => ?_)
  refine s_istore_n F (lv' := [(2, .int v_3), (1, .int v_2), (0, .ref (gad g q))]) dX8_nextCharters_10 rfl (by decide) rfl ?_
  exact s_sub [2, 1, 0] rfl (t_X8_nextCharters_11 F hq fu v_2 v_3 h)
theorem dX8_sortCharters_0 : decode cX8_sortCharters 0 = .ok (.aload_n 0, 1) := by decide +kernel
theorem dX8_sortCharters_1 : decode cX8_sortCharters 1 = .ok (.invokevirtual 285, 3) := by decide +kernel
theorem dX8_sortCharters_4 : decode cX8_sortCharters 4 = .ok (.iconst 0, 1) := by decide +kernel
theorem dX8_sortCharters_5 : decode cX8_sortCharters 5 = .ok (.istore_n 1, 1) := by decide +kernel
theorem dX8_sortCharters_6 : decode cX8_sortCharters 6 = .ok (.iload_n 1, 1) := by decide +kernel
theorem dX8_sortCharters_7 : decode cX8_sortCharters 7 = .ok (.aload_n 0, 1) := by decide +kernel
theorem dX8_sortCharters_8 : decode cX8_sortCharters 8 = .ok (.getfield 19, 3) := by decide +kernel
theorem dX8_sortCharters_11 : decode cX8_sortCharters 11 = .ok (.iconst 0, 1) := by decide +kernel
theorem dX8_sortCharters_12 : decode cX8_sortCharters 12 = .ok (.iaload, 1) := by decide +kernel
theorem dX8_sortCharters_13 : decode cX8_sortCharters 13 = .ok (.if_icmp .ge 54, 3) := by decide +kernel
theorem dX8_sortCharters_16 : decode cX8_sortCharters 16 = .ok (.iconst 0, 1) := by decide +kernel
theorem dX8_sortCharters_17 : decode cX8_sortCharters 17 = .ok (.istore_n 2, 1) := by decide +kernel
theorem dX8_sortCharters_18 : decode cX8_sortCharters 18 = .ok (.iload_n 2, 1) := by decide +kernel
theorem dX8_sortCharters_19 : decode cX8_sortCharters 19 = .ok (.iconst 1, 1) := by decide +kernel
theorem dX8_sortCharters_20 : decode cX8_sortCharters 20 = .ok (.iadd, 1) := by decide +kernel
theorem dX8_sortCharters_21 : decode cX8_sortCharters 21 = .ok (.aload_n 0, 1) := by decide +kernel
theorem dX8_sortCharters_22 : decode cX8_sortCharters 22 = .ok (.getfield 19, 3) := by decide +kernel
theorem dX8_sortCharters_25 : decode cX8_sortCharters 25 = .ok (.iconst 0, 1) := by decide +kernel
theorem dX8_sortCharters_26 : decode cX8_sortCharters 26 = .ok (.iaload, 1) := by decide +kernel
theorem dX8_sortCharters_27 : decode cX8_sortCharters 27 = .ok (.if_icmp .ge 34, 3) := by decide +kernel
theorem dX8_sortCharters_30 : decode cX8_sortCharters 30 = .ok (.aload_n 0, 1) := by decide +kernel
theorem dX8_sortCharters_31 : decode cX8_sortCharters 31 = .ok (.getfield 50, 3) := by decide +kernel
theorem dX8_sortCharters_34 : decode cX8_sortCharters 34 = .ok (.iload_n 2, 1) := by decide +kernel
theorem dX8_sortCharters_35 : decode cX8_sortCharters 35 = .ok (.iaload, 1) := by decide +kernel
theorem dX8_sortCharters_36 : decode cX8_sortCharters 36 = .ok (.aload_n 0, 1) := by decide +kernel
theorem dX8_sortCharters_37 : decode cX8_sortCharters 37 = .ok (.getfield 50, 3) := by decide +kernel
theorem dX8_sortCharters_40 : decode cX8_sortCharters 40 = .ok (.iload_n 2, 1) := by decide +kernel
theorem dX8_sortCharters_41 : decode cX8_sortCharters 41 = .ok (.iconst 1, 1) := by decide +kernel
theorem dX8_sortCharters_42 : decode cX8_sortCharters 42 = .ok (.iadd, 1) := by decide +kernel
theorem dX8_sortCharters_43 : decode cX8_sortCharters 43 = .ok (.iaload, 1) := by decide +kernel
theorem dX8_sortCharters_44 : decode cX8_sortCharters 44 = .ok (.if_icmp .le 11, 3) := by decide +kernel
theorem dX8_sortCharters_47 : decode cX8_sortCharters 47 = .ok (.aload_n 0, 1) := by decide +kernel
theorem dX8_sortCharters_48 : decode cX8_sortCharters 48 = .ok (.iload_n 2, 1) := by decide +kernel
theorem dX8_sortCharters_49 : decode cX8_sortCharters 49 = .ok (.iload_n 2, 1) := by decide +kernel
theorem dX8_sortCharters_50 : decode cX8_sortCharters 50 = .ok (.iconst 1, 1) := by decide +kernel
theorem dX8_sortCharters_51 : decode cX8_sortCharters 51 = .ok (.iadd, 1) := by decide +kernel
theorem dX8_sortCharters_52 : decode cX8_sortCharters 52 = .ok (.invokevirtual 294, 3) := by decide +kernel
theorem dX8_sortCharters_55 : decode cX8_sortCharters 55 = .ok (.iinc 2 1, 3) := by decide +kernel
theorem dX8_sortCharters_58 : decode cX8_sortCharters 58 = .ok (.goto (-40), 3) := by decide +kernel
theorem dX8_sortCharters_61 : decode cX8_sortCharters 61 = .ok (.iinc 1 1, 3) := by decide +kernel
theorem dX8_sortCharters_64 : decode cX8_sortCharters 64 = .ok (.goto (-58), 3) := by decide +kernel
theorem dX8_sortCharters_67 : decode cX8_sortCharters 67 = .ok (.return_, 1) := by decide +kernel
theorem yv_X8_sortCharters : YV yX8_sortCharters cX8_sortCharters 3 none 0 := ⟨m1257, ms63, m9, m1258, ⟨by decide +kernel, by decide +kernel, by decide +kernel⟩, by decide⟩
noncomputable def f_X8_sortCharters_18 (q : Nat) (K6 : Int32 → AH → Option (Unit × AH)) : Nat → Int32 → Int32 → AH → Option (Unit × AH)
  | 0, _, _, _ => none
  | n + 1, x1, x2, h => ck 0 100 (if (h (q + 4) (0 : Int32).toNatClampNeg) ≤ (x2 + 1) then (lt (x1 + 1) (fun v_2 => K6 v_2 h)) else (ck x2 6 (lt ((x2 + 1)) (fun v_5 => ck v_5 6 (if (h (q + 14) (x2 : Int32).toNatClampNeg) ≤ (h (q + 14) (v_5 : Int32).toNatClampNeg) then (lt (x2 + 1) (fun v_6 => (f_X8_sortCharters_18 q K6 n) x1 v_6 h)) else (bd (f_X8_swap q x2 (x2 + 1) h) (fun _ h_7 => lt (x2 + 1) (fun v_9 => (f_X8_sortCharters_18 q K6 n) x1 v_9 h_7))))))))
set_option maxRecDepth 20000 in
set_option maxHeartbeats 4000000 in
theorem t_X8_sortCharters_18 {z : MC} {g : GC} {A : Nat → Prop} (F : Fx z cX8_sortCharters 3 RX8 none 3 g A) {q : Nat} (hq : (gL g)[q]? = some (.inl 8)) (K6 : Int32 → AH → Option (Unit × AH)) (hK6 : ∀ (x1 : Int32) (h : AH), Snd z 3 g A (QF z g A mkU) 6 [(0, .ref (gad g q)), (1, .int x1)] [] h (K6 x1 h)) : ∀ (n : Nat) (x1 : Int32) (x2 : Int32) (h : AH), Snd z 3 g A (QF z g A mkU) 18 [(0, .ref (gad g q)), (1, .int x1), (2, .int x2)] [] h (f_X8_sortCharters_18 q K6 n x1 x2 h) := by
  intro n
  induction n with
  | zero => intros; exact s_none
  | succ n ih =>
    intro x1 x2 h
    unfold f_X8_sortCharters_18
    refine s_iload_n F dX8_sortCharters_18 rfl 2 rfl ?_
    refine s_iconst F (v := 1) dX8_sortCharters_19 (by decide) ?_
    refine s_iadd F dX8_sortCharters_20 ?_
    refine s_aload_n F dX8_sortCharters_21 rfl 0 rfl ?_
    have hw_1 := wf_ref F.2.2.2.2.2.2.1 hq 5 4 (.inr (0, 100)) rfl
    refine s_getr F ciX8 5 4 (.inr (0, 100)) hq (by decide) rfl rfl m898 dX8_sortCharters_22 ?_
    refine s_iconst F (v := 0) dX8_sortCharters_25 (by decide) ?_
    refine s_iald F hw_1 dX8_sortCharters_26 ?_
    refine s_icmp_ge F 61 dX8_sortCharters_27 (by decide) (fun _ => ?_) (fun _ => ?_)
    · refine s_iincv F dX8_sortCharters_61 1 rfl (by decide) (c := 1) (by decide) (fun v_2 => ?_)
      refine s_lv (lv' := [(1, .int v_2), (0, .ref (gad g q)), (2, .int x2)]) rfl ?_
      refine s_goto F 6 dX8_sortCharters_64 (by decide) ?_
      exact s_sub [1, 0] rfl (hK6 v_2 h)
    · refine s_aload_n F dX8_sortCharters_30 rfl 0 rfl ?_
      have hw_3 := wf_ref F.2.2.2.2.2.2.1 hq 28 14 (.inr (0, 6)) rfl
      refine s_getr F ciX8 28 14 (.inr (0, 6)) hq (by decide) rfl rfl m921 dX8_sortCharters_31 ?_
      refine s_iload_n F dX8_sortCharters_34 rfl 2 rfl ?_
      refine s_iald F hw_3 dX8_sortCharters_35 ?_
      refine s_aload_n F dX8_sortCharters_36 rfl 0 rfl ?_
      have hw_4 := wf_ref F.2.2.2.2.2.2.1 hq 28 14 (.inr (0, 6)) rfl
      refine s_getr F ciX8 28 14 (.inr (0, 6)) hq (by decide) rfl rfl m921 dX8_sortCharters_37 ?_
      refine s_iload_n F dX8_sortCharters_40 rfl 2 rfl ?_
      refine s_iconst F (v := 1) dX8_sortCharters_41 (by decide) ?_
      refine s_iadd F dX8_sortCharters_42 ?_
      refine s_leti (fun v_5 => ?_)
      refine s_iald F hw_4 dX8_sortCharters_43 ?_
      refine s_icmp_le F 55 dX8_sortCharters_44 (by decide) (fun _ => ?_) (fun _ => ?_)
      · refine s_iincv F dX8_sortCharters_55 2 rfl (by decide) (c := 1) (by decide) (fun v_6 => ?_)
        refine s_lv (lv' := [(2, .int v_6), (0, .ref (gad g q)), (1, .int x1)]) rfl ?_
        refine s_goto F 18 dX8_sortCharters_58 (by decide) ?_
        exact s_sub [1, 2, 0] rfl (ih x1 v_6 h)
      · refine s_aload_n F dX8_sortCharters_47 rfl 0 rfl ?_
        refine s_iload_n F dX8_sortCharters_48 rfl 2 rfl ?_
        refine s_iload_n F dX8_sortCharters_49 rfl 2 rfl ?_
        refine s_iconst F (v := 1) dX8_sortCharters_50 (by decide) ?_
        refine s_iadd F dX8_sortCharters_51 ?_
        refine s_callVu (f := fun hh => f_X8_swap q x2 (x2 + 1) hh) (As := [.int x2, .int (x2 + 1)]) F yv_X8_swap (ct_X8_swap z.2.1 g hq x2 (x2 + 1)) (by decide) m1259 hq rfl rfl rfl (Nat.le_of_ble_eq_true rfl) dX8_sortCharters_52 (fun _ h_7 e_v_8 => ?_)
        refine s_iincv F dX8_sortCharters_55 2 rfl (by decide) (c := 1) (by decide) (fun v_9 => ?_)
        refine s_lv (lv' := [(2, .int v_9), (0, .ref (gad g q)), (1, .int x1)]) rfl ?_
        refine s_goto F 18 dX8_sortCharters_58 (by decide) ?_
        exact s_sub [1, 2, 0] rfl (ih x1 v_9 h_7)
noncomputable def f_X8_sortCharters_6 (q : Nat) : Nat → Int32 → AH → Option (Unit × AH)
  | 0, _, _ => none
  | n + 1, x1, h => ck 0 100 (if (h (q + 4) (0 : Int32).toNatClampNeg) ≤ x1 then (some ((), h)) else (f_X8_sortCharters_18 q (f_X8_sortCharters_6 q n) fu x1 0 h))
set_option maxRecDepth 20000 in
set_option maxHeartbeats 4000000 in
theorem t_X8_sortCharters_6 {z : MC} {g : GC} {A : Nat → Prop} (F : Fx z cX8_sortCharters 3 RX8 none 3 g A) {q : Nat} (hq : (gL g)[q]? = some (.inl 8)) : ∀ (n : Nat) (x1 : Int32) (h : AH), Snd z 3 g A (QF z g A mkU) 6 [(0, .ref (gad g q)), (1, .int x1)] [] h (f_X8_sortCharters_6 q n x1 h) := by
  intro n
  induction n with
  | zero => intros; exact s_none
  | succ n ih =>
    intro x1 h
    unfold f_X8_sortCharters_6
    refine s_iload_n F dX8_sortCharters_6 rfl 1 rfl ?_
    refine s_aload_n F dX8_sortCharters_7 rfl 0 rfl ?_
    have hw_1 := wf_ref F.2.2.2.2.2.2.1 hq 5 4 (.inr (0, 100)) rfl
    refine s_getr F ciX8 5 4 (.inr (0, 100)) hq (by decide) rfl rfl m898 dX8_sortCharters_8 ?_
    refine s_iconst F (v := 0) dX8_sortCharters_11 (by decide) ?_
    refine s_iald F hw_1 dX8_sortCharters_12 ?_
    refine s_icmp_ge F 67 dX8_sortCharters_13 (by decide) (fun _ => ?_) (fun _ => ?_)
    · exact s_vret F dX8_sortCharters_67
    · refine s_iconst F (v := 0) dX8_sortCharters_16 (by decide) ?_
      refine s_istore_n F (lv' := [(2, .int 0), (0, .ref (gad g q)), (1, .int x1)]) dX8_sortCharters_17 rfl (by decide) rfl ?_
      exact s_sub [1, 2, 0] rfl (t_X8_sortCharters_18 F hq (f_X8_sortCharters_6 q n) ih fu x1 0 h)
noncomputable def f_X8_sortCharters (q : Nat) (h : AH) : Option (Unit × AH) := bd (f_X8_layCharters q h) (fun _ h_1 => f_X8_sortCharters_6 q fu 0 h_1)
set_option maxRecDepth 20000 in
set_option maxHeartbeats 4000000 in
theorem ct_X8_sortCharters (l : Launch) (g : GC) {q : Nat} (hq : (gL g)[q]? = some (.inl 8)) : Ct l yX8_sortCharters cX8_sortCharters 3 none 3 [.ref (gad g q)] g mkU (fun h => f_X8_sortCharters q h) := by
  refine Ct.of (by decide +kernel) (Nat.le_of_ble_eq_true rfl) (fun z A h _ F => ?_)
  show Snd z 3 g A (QF z g A mkU) 0 [(0, .ref (gad g q))] [] h (f_X8_sortCharters q h)
  unfold f_X8_sortCharters
  refine s_aload_n F dX8_sortCharters_0 rfl 0 rfl ?_
  refine s_callVu (f := fun hh => f_X8_layCharters q hh) (As := []) F yv_X8_layCharters (ct_X8_layCharters z.2.1 g hq) (by decide) m1223 hq rfl rfl rfl (Nat.le_of_ble_eq_true rfl) dX8_sortCharters_1 (fun _ h_1 e_v_2 => ?_)
  refine s_iconst F (v := 0) dX8_sortCharters_4 (by decide) ?_
  refine s_istore_n F (lv' := [(1, .int 0), (0, .ref (gad g q))]) dX8_sortCharters_5 rfl (by decide) rfl ?_
  exact s_sub [1, 0] rfl (t_X8_sortCharters_6 F hq fu 0 h_1)
theorem dX8_anew_0 : decode cX8_anew 0 = .ok (.aload_n 0, 1) := by decide +kernel
theorem dX8_anew_1 : decode cX8_anew 1 = .ok (.iconst 0, 1) := by decide +kernel
theorem dX8_anew_2 : decode cX8_anew 2 = .ok (.putfield 65, 3) := by decide +kernel
theorem dX8_anew_5 : decode cX8_anew 5 = .ok (.aload_n 0, 1) := by decide +kernel
theorem dX8_anew_6 : decode cX8_anew 6 = .ok (.getfield 195, 3) := by decide +kernel
theorem dX8_anew_9 : decode cX8_anew 9 = .ok (.ifCond .ne 6, 3) := by decide +kernel
theorem dX8_anew_12 : decode cX8_anew 12 = .ok (.ldc 244, 2) := by decide +kernel
theorem dX8_anew_14 : decode cX8_anew 14 = .ok (.ireturn, 1) := by decide +kernel
theorem dX8_anew_15 : decode cX8_anew 15 = .ok (.iload_n 1, 1) := by decide +kernel
theorem dX8_anew_16 : decode cX8_anew 16 = .ok (.iload_n 2, 1) := by decide +kernel
theorem dX8_anew_17 : decode cX8_anew 17 = .ok (.invokestatic 280, 3) := by decide +kernel
theorem dX8_anew_20 : decode cX8_anew 20 = .ok (.ifCond .eq 23, 3) := by decide +kernel
theorem dX8_anew_23 : decode cX8_anew 23 = .ok (.iload_n 3, 1) := by decide +kernel
theorem dX8_anew_24 : decode cX8_anew 24 = .ok (.i2l, 1) := by decide +kernel
theorem dX8_anew_25 : decode cX8_anew 25 = .ok (.ldc2_w 283, 3) := by decide +kernel
theorem dX8_anew_28 : decode cX8_anew 28 = .ok (.aload_n 0, 1) := by decide +kernel
theorem dX8_anew_29 : decode cX8_anew 29 = .ok (.getfield 19, 3) := by decide +kernel
theorem dX8_anew_32 : decode cX8_anew 32 = .ok (.iconst 0, 1) := by decide +kernel
theorem dX8_anew_33 : decode cX8_anew 33 = .ok (.iaload, 1) := by decide +kernel
theorem dX8_anew_34 : decode cX8_anew 34 = .ok (.iconst 1, 1) := by decide +kernel
theorem dX8_anew_35 : decode cX8_anew 35 = .ok (.isub, 1) := by decide +kernel
theorem dX8_anew_36 : decode cX8_anew 36 = .ok (.i2l, 1) := by decide +kernel
theorem dX8_anew_37 : decode cX8_anew 37 = .ok (.invokestatic 75, 3) := by decide +kernel
theorem dX8_anew_40 : decode cX8_anew 40 = .ok (.ifCond .ne 6, 3) := by decide +kernel
theorem dX8_anew_43 : decode cX8_anew 43 = .ok (.ldc 85, 2) := by decide +kernel
theorem dX8_anew_45 : decode cX8_anew 45 = .ok (.ireturn, 1) := by decide +kernel
theorem dX8_anew_46 : decode cX8_anew 46 = .ok (.aload_n 0, 1) := by decide +kernel
theorem dX8_anew_47 : decode cX8_anew 47 = .ok (.iload_n 1, 1) := by decide +kernel
theorem dX8_anew_48 : decode cX8_anew 48 = .ok (.putfield 262, 3) := by decide +kernel
theorem dX8_anew_51 : decode cX8_anew 51 = .ok (.aload_n 0, 1) := by decide +kernel
theorem dX8_anew_52 : decode cX8_anew 52 = .ok (.iload_n 2, 1) := by decide +kernel
theorem dX8_anew_53 : decode cX8_anew 53 = .ok (.putfield 265, 3) := by decide +kernel
theorem dX8_anew_56 : decode cX8_anew 56 = .ok (.aload_n 0, 1) := by decide +kernel
theorem dX8_anew_57 : decode cX8_anew 57 = .ok (.invokevirtual 288, 3) := by decide +kernel
theorem dX8_anew_60 : decode cX8_anew 60 = .ok (.aload_n 0, 1) := by decide +kernel
theorem dX8_anew_61 : decode cX8_anew 61 = .ok (.invokevirtual 297, 3) := by decide +kernel
theorem dX8_anew_64 : decode cX8_anew 64 = .ok (.iconst (-1), 1) := by decide +kernel
theorem dX8_anew_65 : decode cX8_anew 65 = .ok (.istore 4, 2) := by decide +kernel
theorem dX8_anew_67 : decode cX8_anew 67 = .ok (.iconst 1, 1) := by decide +kernel
theorem dX8_anew_68 : decode cX8_anew 68 = .ok (.istore 5, 2) := by decide +kernel
theorem dX8_anew_70 : decode cX8_anew 70 = .ok (.iload 5, 2) := by decide +kernel
theorem dX8_anew_72 : decode cX8_anew 72 = .ok (.ifCond .eq 64, 3) := by decide +kernel
theorem dX8_anew_75 : decode cX8_anew 75 = .ok (.aload_n 0, 1) := by decide +kernel
theorem dX8_anew_76 : decode cX8_anew 76 = .ok (.iconst 0, 1) := by decide +kernel
theorem dX8_anew_77 : decode cX8_anew 77 = .ok (.invokevirtual 277, 3) := by decide +kernel
theorem dX8_anew_80 : decode cX8_anew 80 = .ok (.istore 6, 2) := by decide +kernel
theorem dX8_anew_82 : decode cX8_anew 82 = .ok (.iload 6, 2) := by decide +kernel
theorem dX8_anew_84 : decode cX8_anew 84 = .ok (.iload 4, 2) := by decide +kernel
theorem dX8_anew_86 : decode cX8_anew 86 = .ok (.if_icmp .le 41, 3) := by decide +kernel
theorem dX8_anew_89 : decode cX8_anew 89 = .ok (.iload 6, 2) := by decide +kernel
theorem dX8_anew_91 : decode cX8_anew 91 = .ok (.istore 4, 2) := by decide +kernel
theorem dX8_anew_93 : decode cX8_anew 93 = .ok (.iconst 0, 1) := by decide +kernel
theorem dX8_anew_94 : decode cX8_anew 94 = .ok (.istore 7, 2) := by decide +kernel
theorem dX8_anew_96 : decode cX8_anew 96 = .ok (.iload 7, 2) := by decide +kernel
theorem dX8_anew_98 : decode cX8_anew 98 = .ok (.aload_n 0, 1) := by decide +kernel
theorem dX8_anew_99 : decode cX8_anew 99 = .ok (.getfield 19, 3) := by decide +kernel
theorem dX8_anew_102 : decode cX8_anew 102 = .ok (.iconst 0, 1) := by decide +kernel
theorem dX8_anew_103 : decode cX8_anew 103 = .ok (.iaload, 1) := by decide +kernel
theorem dX8_anew_104 : decode cX8_anew 104 = .ok (.if_icmp .ge 23, 3) := by decide +kernel
theorem dX8_anew_107 : decode cX8_anew 107 = .ok (.aload_n 0, 1) := by decide +kernel
theorem dX8_anew_108 : decode cX8_anew 108 = .ok (.getfield 53, 3) := by decide +kernel
theorem dX8_anew_111 : decode cX8_anew 111 = .ok (.iload 7, 2) := by decide +kernel
theorem dX8_anew_113 : decode cX8_anew 113 = .ok (.aload_n 0, 1) := by decide +kernel
theorem dX8_anew_114 : decode cX8_anew 114 = .ok (.getfield 50, 3) := by decide +kernel
theorem dX8_anew_117 : decode cX8_anew 117 = .ok (.iload 7, 2) := by decide +kernel
theorem dX8_anew_119 : decode cX8_anew 119 = .ok (.iaload, 1) := by decide +kernel
theorem dX8_anew_120 : decode cX8_anew 120 = .ok (.iastore, 1) := by decide +kernel
theorem dX8_anew_121 : decode cX8_anew 121 = .ok (.iinc 7 1, 3) := by decide +kernel
theorem dX8_anew_124 : decode cX8_anew 124 = .ok (.goto (-28), 3) := by decide +kernel
theorem dX8_anew_127 : decode cX8_anew 127 = .ok (.aload_n 0, 1) := by decide +kernel
theorem dX8_anew_128 : decode cX8_anew 128 = .ok (.invokevirtual 300, 3) := by decide +kernel
theorem dX8_anew_131 : decode cX8_anew 131 = .ok (.istore 5, 2) := by decide +kernel
theorem dX8_anew_133 : decode cX8_anew 133 = .ok (.goto (-63), 3) := by decide +kernel
theorem dX8_anew_136 : decode cX8_anew 136 = .ok (.iload_n 3, 1) := by decide +kernel
theorem dX8_anew_137 : decode cX8_anew 137 = .ok (.ifCond .ge 8, 3) := by decide +kernel
theorem dX8_anew_140 : decode cX8_anew 140 = .ok (.iload 4, 2) := by decide +kernel
theorem dX8_anew_142 : decode cX8_anew 142 = .ok (.goto 9, 3) := by decide +kernel
theorem dX8_anew_145 : decode cX8_anew 145 = .ok (.aload_n 0, 1) := by decide +kernel
theorem dX8_anew_146 : decode cX8_anew 146 = .ok (.getfield 53, 3) := by decide +kernel
theorem dX8_anew_149 : decode cX8_anew 149 = .ok (.iload_n 3, 1) := by decide +kernel
theorem dX8_anew_150 : decode cX8_anew 150 = .ok (.iaload, 1) := by decide +kernel
theorem dX8_anew_151 : decode cX8_anew 151 = .ok (.ireturn, 1) := by decide +kernel
theorem yv_X8_anew : YV yX8_anew cX8_anew 8 (some .int) 3 := ⟨m1252, m1253, m9, m1254, ⟨by decide +kernel, by decide +kernel, by decide +kernel⟩, by decide⟩
noncomputable def f_X8_anew_96 (q : Nat) (K70 : Int32 → Int32 → Int32 → AH → Option (Int32 × AH)) : Nat → Int32 → Int32 → Int32 → AH → Option (Int32 × AH)
  | 0, _, _, _, _ => none
  | n + 1, x3, x4, x7, h => ck 0 100 (if (h (q + 4) (0 : Int32).toNatClampNeg) ≤ x7 then (bd (f_X8_nextCharters q h) (fun v_3 h_2 => K70 x3 x4 v_3 h_2)) else (ck x7 6 (ck x7 6 (lt (hset h (q + 15) (x7 : Int32).toNatClampNeg (h (q + 14) (x7 : Int32).toNatClampNeg)) (fun h_6 => lt (x7 + 1) (fun v_7 => (f_X8_anew_96 q K70 n) x3 x4 v_7 h_6))))))
set_option maxRecDepth 20000 in
set_option maxHeartbeats 4000000 in
theorem t_X8_anew_96 {z : MC} {g : GC} {A : Nat → Prop} (F : Fx z cX8_anew 8 RX8 (some .int) 7 g A) {q : Nat} (hq : (gL g)[q]? = some (.inl 8)) (K70 : Int32 → Int32 → Int32 → AH → Option (Int32 × AH)) (hK70 : ∀ (x3 : Int32) (x4 : Int32) (x5 : Int32) (h : AH), Snd z 8 g A (QF z g A mkI) 70 [(0, .ref (gad g q)), (3, .int x3), (4, .int x4), (5, .int x5)] [] h (K70 x3 x4 x5 h)) : ∀ (n : Nat) (x3 : Int32) (x4 : Int32) (x7 : Int32) (h : AH), Snd z 8 g A (QF z g A mkI) 96 [(0, .ref (gad g q)), (3, .int x3), (4, .int x4), (7, .int x7)] [] h (f_X8_anew_96 q K70 n x3 x4 x7 h) := by
  intro n
  induction n with
  | zero => intros; exact s_none
  | succ n ih =>
    intro x3 x4 x7 h
    unfold f_X8_anew_96
    refine s_iload F dX8_anew_96 3 rfl ?_
    refine s_aload_n F dX8_anew_98 rfl 0 rfl ?_
    have hw_1 := wf_ref F.2.2.2.2.2.2.1 hq 5 4 (.inr (0, 100)) rfl
    refine s_getr F ciX8 5 4 (.inr (0, 100)) hq (by decide) rfl rfl m898 dX8_anew_99 ?_
    refine s_iconst F (v := 0) dX8_anew_102 (by decide) ?_
    refine s_iald F hw_1 dX8_anew_103 ?_
    refine s_icmp_ge F 127 dX8_anew_104 (by decide) (fun _ => ?_) (fun _ => ?_)
    · refine s_aload_n F dX8_anew_127 rfl 0 rfl ?_
      refine s_callVi (f := fun hh => f_X8_nextCharters q hh) (As := []) F yv_X8_nextCharters (ct_X8_nextCharters z.2.1 g hq) (by decide) m1263 hq rfl rfl rfl (Nat.le_of_ble_eq_true rfl) dX8_anew_128 (fun v_3 h_2 e_v_3 => ?_)
      refine s_istore F (lv' := [(5, .int v_3), (0, .ref (gad g q)), (3, .int x3), (4, .int x4), (7, .int x7)]) dX8_anew_131 (by decide) rfl ?_
      refine s_goto F 70 dX8_anew_133 (by decide) ?_
      exact s_sub [1, 2, 3, 0] rfl (hK70 x3 x4 v_3 h_2)
    · refine s_aload_n F dX8_anew_107 rfl 0 rfl ?_
      have hw_4 := wf_ref F.2.2.2.2.2.2.1 hq 29 15 (.inr (0, 6)) rfl
      refine s_getr F ciX8 29 15 (.inr (0, 6)) hq (by decide) rfl rfl m922 dX8_anew_108 ?_
      refine s_iload F dX8_anew_111 3 rfl ?_
      refine s_aload_n F dX8_anew_113 rfl 0 rfl ?_
      have hw_5 := wf_ref F.2.2.2.2.2.2.1 hq 28 14 (.inr (0, 6)) rfl
      refine s_getr F ciX8 28 14 (.inr (0, 6)) hq (by decide) rfl rfl m921 dX8_anew_114 ?_
      refine s_iload F dX8_anew_117 3 rfl ?_
      refine s_iald F hw_5 dX8_anew_119 ?_
      refine s_iast F hw_4 dX8_anew_120 ?_
      refine s_letH (fun h_6 => ?_)
      refine s_iincv F dX8_anew_121 3 rfl (by decide) (c := 1) (by decide) (fun v_7 => ?_)
      refine s_lv (lv' := [(7, .int v_7), (0, .ref (gad g q)), (3, .int x3), (4, .int x4)]) rfl ?_
      refine s_goto F 96 dX8_anew_124 (by decide) ?_
      exact s_sub [1, 2, 3, 0] rfl (ih x3 x4 v_7 h_6)
noncomputable def f_X8_anew_70 (q : Nat) : Nat → Int32 → Int32 → Int32 → AH → Option (Int32 × AH)
  | 0, _, _, _, _ => none
  | n + 1, x3, x4, x5, h => if x5 = 0 then (if (0 : Int32) ≤ x3 then (ck x3 6 (some (h (q + 15) (x3 : Int32).toNatClampNeg, h))) else (some (x4, h))) else (bd (f_X8_mostFrom q 0 h) (fun v_3 h_2 => if v_3 ≤ x4 then (bd (f_X8_nextCharters q h_2) (fun v_5 h_4 => (f_X8_anew_70 q n) x3 x4 v_5 h_4)) else (f_X8_anew_96 q (f_X8_anew_70 q n) fu x3 v_3 0 h_2)))
set_option maxRecDepth 20000 in
set_option maxHeartbeats 4000000 in
theorem t_X8_anew_70 {z : MC} {g : GC} {A : Nat → Prop} (F : Fx z cX8_anew 8 RX8 (some .int) 7 g A) {q : Nat} (hq : (gL g)[q]? = some (.inl 8)) : ∀ (n : Nat) (x3 : Int32) (x4 : Int32) (x5 : Int32) (h : AH), Snd z 8 g A (QF z g A mkI) 70 [(0, .ref (gad g q)), (3, .int x3), (4, .int x4), (5, .int x5)] [] h (f_X8_anew_70 q n x3 x4 x5 h) := by
  intro n
  induction n with
  | zero => intros; exact s_none
  | succ n ih =>
    intro x3 x4 x5 h
    unfold f_X8_anew_70
    refine s_iload F dX8_anew_70 3 rfl ?_
    refine s_if_eq F 136 dX8_anew_72 (by decide) (fun _ => ?_) (fun _ => ?_)
    · refine s_iload_n F dX8_anew_136 rfl 1 rfl ?_
      refine s_if_ge F 145 dX8_anew_137 (by decide) (fun _ => ?_) (fun _ => ?_)
      · refine s_aload_n F dX8_anew_145 rfl 0 rfl ?_
        have hw_1 := wf_ref F.2.2.2.2.2.2.1 hq 29 15 (.inr (0, 6)) rfl
        refine s_getr F ciX8 29 15 (.inr (0, 6)) hq (by decide) rfl rfl m922 dX8_anew_146 ?_
        refine s_iload_n F dX8_anew_149 rfl 1 rfl ?_
        refine s_iald F hw_1 dX8_anew_150 ?_
        exact s_iret F dX8_anew_151
      · refine s_iload F dX8_anew_140 2 rfl ?_
        refine s_goto F 151 dX8_anew_142 (by decide) ?_
        exact s_iret F dX8_anew_151
    · refine s_aload_n F dX8_anew_75 rfl 0 rfl ?_
      refine s_iconst F (v := 0) dX8_anew_76 (by decide) ?_
      refine s_callVi (f := fun hh => f_X8_mostFrom q 0 hh) (As := [.int 0]) F yv_X8_mostFrom (ct_X8_mostFrom z.2.1 g hq 0) (by decide) m1231 hq rfl rfl rfl (Nat.le_of_ble_eq_true rfl) dX8_anew_77 (fun v_3 h_2 e_v_3 => ?_)
      refine s_istore F (lv' := [(6, .int v_3), (0, .ref (gad g q)), (3, .int x3), (4, .int x4), (5, .int x5)]) dX8_anew_80 (by decide) rfl ?_
      refine s_iload F dX8_anew_82 0 rfl ?_
      refine s_iload F dX8_anew_84 3 rfl ?_
      refine s_icmp_le F 127 dX8_anew_86 (by decide) (fun _ => ?_) (fun _ => ?_)
      · refine s_aload_n F dX8_anew_127 rfl 1 rfl ?_
        refine s_callVi (f := fun hh => f_X8_nextCharters q hh) (As := []) F yv_X8_nextCharters (ct_X8_nextCharters z.2.1 g hq) (by decide) m1263 hq rfl rfl rfl (Nat.le_of_ble_eq_true rfl) dX8_anew_128 (fun v_5 h_4 e_v_5 => ?_)
        refine s_istore F (lv' := [(5, .int v_5), (6, .int v_3), (0, .ref (gad g q)), (3, .int x3), (4, .int x4)]) dX8_anew_131 (by decide) rfl ?_
        refine s_goto F 70 dX8_anew_133 (by decide) ?_
        exact s_sub [2, 3, 4, 0] rfl (ih x3 x4 v_5 h_4)
      · refine s_iload F dX8_anew_89 0 rfl ?_
        refine s_istore F (lv' := [(4, .int v_3), (6, .int v_3), (0, .ref (gad g q)), (3, .int x3), (5, .int x5)]) dX8_anew_91 (by decide) rfl ?_
        refine s_iconst F (v := 0) dX8_anew_93 (by decide) ?_
        refine s_istore F (lv' := [(7, .int 0), (4, .int v_3), (6, .int v_3), (0, .ref (gad g q)), (3, .int x3), (5, .int x5)]) dX8_anew_94 (by decide) rfl ?_
        exact s_sub [3, 4, 1, 0] rfl (t_X8_anew_96 F hq (f_X8_anew_70 q n) ih fu x3 v_3 0 h_2)
noncomputable def f_X8_anew (q : Nat) (x1 : Int32) (x2 : Int32) (x3 : Int32) (h : AH) : Option (Int32 × AH) := lt (hset h q 0 0) (fun h_1 => if (h_1 q 7) = 0 then (some ((-1000002), h_1)) else (bd (f_X8_areHours x1 x2 h_1) (fun v_3 h_2 => if v_3 = 0 then (some ((-1000001), h_2)) else (ck 0 100 (bd (f_X8_in ((x3 : Int32).toInt64) (-1) ((((h_2 (q + 4) (0 : Int32).toNatClampNeg) - 1) : Int32).toInt64) h_2) (fun v_6 h_5 => if v_6 = 0 then (some ((-1000001), h_5)) else (lt (hset h_5 q 26 x1) (fun h_7 => lt (hset h_7 q 27 x2) (fun h_8 => bd (f_X8_noneTaken q h_8) (fun _ h_9 => bd (f_X8_sortCharters q h_9) (fun _ h_11 => f_X8_anew_70 q fu x3 (-1) 1 h_11)))))))))))
set_option maxRecDepth 20000 in
set_option maxHeartbeats 4000000 in
theorem ct_X8_anew (l : Launch) (g : GC) {q : Nat} (hq : (gL g)[q]? = some (.inl 8)) (x1 : Int32) (x2 : Int32) (x3 : Int32) : Ct l yX8_anew cX8_anew 8 (some .int) 7 [.ref (gad g q), .int x1, .int x2, .int x3] g mkI (fun h => f_X8_anew q x1 x2 x3 h) := by
  refine Ct.of (by decide +kernel) (Nat.le_of_ble_eq_true rfl) (fun z A h _ F => ?_)
  show Snd z 8 g A (QF z g A mkI) 0 [(0, .ref (gad g q)), (1, .int x1), (2, .int x2), (3, .int x3)] [] h (f_X8_anew q x1 x2 x3 h)
  unfold f_X8_anew
  refine s_aload_n F dX8_anew_0 rfl 0 rfl ?_
  refine s_iconst F (v := 0) dX8_anew_1 (by decide) ?_
  refine s_put F ciX8 (k := 0) hq (by decide) rfl rfl rfl rfl m893 dX8_anew_2 ?_
  refine s_letH (fun h_1 => ?_)
  refine s_aload_n F dX8_anew_5 rfl 0 rfl ?_
  refine s_geti F ciX8 7 hq (by decide) rfl rfl m900 dX8_anew_6 ?_
  refine s_if_ne F 15 dX8_anew_9 (by decide) (fun _ => ?_) (fun _ => ?_)
  · refine s_iload_n F dX8_anew_15 rfl 1 rfl ?_
    refine s_iload_n F dX8_anew_16 rfl 2 rfl ?_
    refine s_callSi (f := fun hh => f_X8_areHours x1 x2 hh) (As := [.int x1, .int x2]) F ys_X8_areHours (ct_X8_areHours z.2.1 g x1 x2) (by decide) m1219 rfl rfl (Nat.le_of_ble_eq_true rfl) dX8_anew_17 (fun v_3 h_2 e_v_3 => ?_)
    refine s_if_eq F 43 dX8_anew_20 (by decide) (fun _ => ?_) (fun _ => ?_)
    · refine s_ldc F (v := (-1000001)) dX8_anew_43 m1009 ?_
      exact s_iret F dX8_anew_45
    · refine s_iload_n F dX8_anew_23 rfl 3 rfl ?_
      refine s_i2l F dX8_anew_24 ?_
      refine s_ldc2 F (v := (-1)) dX8_anew_25 m1222 ?_
      refine s_aload_n F dX8_anew_28 rfl 0 rfl ?_
      have hw_4 := wf_ref F.2.2.2.2.2.2.1 hq 5 4 (.inr (0, 100)) rfl
      refine s_getr F ciX8 5 4 (.inr (0, 100)) hq (by decide) rfl rfl m898 dX8_anew_29 ?_
      refine s_iconst F (v := 0) dX8_anew_32 (by decide) ?_
      refine s_iald F hw_4 dX8_anew_33 ?_
      refine s_iconst F (v := 1) dX8_anew_34 (by decide) ?_
      refine s_isub F dX8_anew_35 ?_
      refine s_i2l F dX8_anew_36 ?_
      refine s_callSi (f := fun hh => f_X8_in ((x3 : Int32).toInt64) (-1) ((((h_2 (q + 4) (0 : Int32).toNatClampNeg) - 1) : Int32).toInt64) hh) (As := [.long ((x3 : Int32).toInt64), .long (-1), .long ((((h_2 (q + 4) (0 : Int32).toNatClampNeg) - 1) : Int32).toInt64)]) F ys_X8_in (ct_X8_in z.2.1 g ((x3 : Int32).toInt64) (-1) ((((h_2 (q + 4) (0 : Int32).toNatClampNeg) - 1) : Int32).toInt64)) (by decide) m1005 rfl rfl (Nat.le_of_ble_eq_true rfl) dX8_anew_37 (fun v_6 h_5 e_v_6 => ?_)
      refine s_if_ne F 46 dX8_anew_40 (by decide) (fun _ => ?_) (fun _ => ?_)
      · refine s_aload_n F dX8_anew_46 rfl 0 rfl ?_
        refine s_iload_n F dX8_anew_47 rfl 1 rfl ?_
        refine s_put F ciX8 (k := 26) hq (by decide) rfl rfl rfl rfl m919 dX8_anew_48 ?_
        refine s_letH (fun h_7 => ?_)
        refine s_aload_n F dX8_anew_51 rfl 0 rfl ?_
        refine s_iload_n F dX8_anew_52 rfl 2 rfl ?_
        refine s_put F ciX8 (k := 27) hq (by decide) rfl rfl rfl rfl m920 dX8_anew_53 ?_
        refine s_letH (fun h_8 => ?_)
        refine s_aload_n F dX8_anew_56 rfl 0 rfl ?_
        refine s_callVu (f := fun hh => f_X8_noneTaken q hh) (As := []) F yv_X8_noneTaken (ct_X8_noneTaken z.2.1 g hq) (by decide) m1227 hq rfl rfl rfl (Nat.le_of_ble_eq_true rfl) dX8_anew_57 (fun _ h_9 e_v_10 => ?_)
        refine s_aload_n F dX8_anew_60 rfl 0 rfl ?_
        refine s_callVu (f := fun hh => f_X8_sortCharters q hh) (As := []) F yv_X8_sortCharters (ct_X8_sortCharters z.2.1 g hq) (by decide) m1255 hq rfl rfl rfl (Nat.le_of_ble_eq_true rfl) dX8_anew_61 (fun _ h_11 e_v_12 => ?_)
        refine s_iconst F (v := (-1)) dX8_anew_64 (by decide) ?_
        refine s_istore F (lv' := [(4, .int (-1)), (0, .ref (gad g q)), (1, .int x1), (2, .int x2), (3, .int x3)]) dX8_anew_65 (by decide) rfl ?_
        refine s_iconst F (v := 1) dX8_anew_67 (by decide) ?_
        refine s_istore F (lv' := [(5, .int 1), (4, .int (-1)), (0, .ref (gad g q)), (1, .int x1), (2, .int x2), (3, .int x3)]) dX8_anew_68 (by decide) rfl ?_
        exact s_sub [2, 5, 1, 0] rfl (t_X8_anew_70 F hq fu x3 (-1) 1 h_11)
      · refine s_ldc F (v := (-1000001)) dX8_anew_43 m1009 ?_
        exact s_iret F dX8_anew_45
  · refine s_ldc F (v := (-1000002)) dX8_anew_12 m1169 ?_
    exact s_iret F dX8_anew_14
theorem dX8_cut_0 : decode cX8_cut 0 = .ok (.aload_n 0, 1) := by decide +kernel
theorem dX8_cut_1 : decode cX8_cut 1 = .ok (.iconst 0, 1) := by decide +kernel
theorem dX8_cut_2 : decode cX8_cut 2 = .ok (.putfield 65, 3) := by decide +kernel
theorem dX8_cut_5 : decode cX8_cut 5 = .ok (.aload_n 0, 1) := by decide +kernel
theorem dX8_cut_6 : decode cX8_cut 6 = .ok (.getfield 195, 3) := by decide +kernel
theorem dX8_cut_9 : decode cX8_cut 9 = .ok (.ifCond .ne 6, 3) := by decide +kernel
theorem dX8_cut_12 : decode cX8_cut 12 = .ok (.ldc 244, 2) := by decide +kernel
theorem dX8_cut_14 : decode cX8_cut 14 = .ok (.ireturn, 1) := by decide +kernel
theorem dX8_cut_15 : decode cX8_cut 15 = .ok (.iload_n 1, 1) := by decide +kernel
theorem dX8_cut_16 : decode cX8_cut 16 = .ok (.i2l, 1) := by decide +kernel
theorem dX8_cut_17 : decode cX8_cut 17 = .ok (.lconst 0, 1) := by decide +kernel
theorem dX8_cut_18 : decode cX8_cut 18 = .ok (.ldc2_w 304, 3) := by decide +kernel
theorem dX8_cut_21 : decode cX8_cut 21 = .ok (.invokestatic 75, 3) := by decide +kernel
theorem dX8_cut_24 : decode cX8_cut 24 = .ok (.ifCond .eq 15, 3) := by decide +kernel
theorem dX8_cut_27 : decode cX8_cut 27 = .ok (.iload_n 2, 1) := by decide +kernel
theorem dX8_cut_28 : decode cX8_cut 28 = .ok (.i2l, 1) := by decide +kernel
theorem dX8_cut_29 : decode cX8_cut 29 = .ok (.lconst 0, 1) := by decide +kernel
theorem dX8_cut_30 : decode cX8_cut 30 = .ok (.ldc2_w 306, 3) := by decide +kernel
theorem dX8_cut_33 : decode cX8_cut 33 = .ok (.invokestatic 75, 3) := by decide +kernel
theorem dX8_cut_36 : decode cX8_cut 36 = .ok (.ifCond .ne 6, 3) := by decide +kernel
theorem dX8_cut_39 : decode cX8_cut 39 = .ok (.ldc 85, 2) := by decide +kernel
theorem dX8_cut_41 : decode cX8_cut 41 = .ok (.ireturn, 1) := by decide +kernel
theorem dX8_cut_42 : decode cX8_cut 42 = .ok (.bipush 15, 2) := by decide +kernel
theorem dX8_cut_44 : decode cX8_cut 44 = .ok (.istore_n 3, 1) := by decide +kernel
theorem dX8_cut_45 : decode cX8_cut 45 = .ok (.iconst 0, 1) := by decide +kernel
theorem dX8_cut_46 : decode cX8_cut 46 = .ok (.istore 4, 2) := by decide +kernel
theorem dX8_cut_48 : decode cX8_cut 48 = .ok (.iload 4, 2) := by decide +kernel
theorem dX8_cut_50 : decode cX8_cut 50 = .ok (.aload_n 0, 1) := by decide +kernel
theorem dX8_cut_51 : decode cX8_cut 51 = .ok (.getfield 19, 3) := by decide +kernel
theorem dX8_cut_54 : decode cX8_cut 54 = .ok (.iconst 0, 1) := by decide +kernel
theorem dX8_cut_55 : decode cX8_cut 55 = .ok (.iaload, 1) := by decide +kernel
theorem dX8_cut_56 : decode cX8_cut 56 = .ok (.if_icmp .ge 60, 3) := by decide +kernel
theorem dX8_cut_59 : decode cX8_cut 59 = .ok (.aload_n 0, 1) := by decide +kernel
theorem dX8_cut_60 : decode cX8_cut 60 = .ok (.iload 4, 2) := by decide +kernel
theorem dX8_cut_62 : decode cX8_cut 62 = .ok (.iconst 4, 1) := by decide +kernel
theorem dX8_cut_63 : decode cX8_cut 63 = .ok (.invokevirtual 212, 3) := by decide +kernel
theorem dX8_cut_66 : decode cX8_cut 66 = .ok (.ifCond .ne 44, 3) := by decide +kernel
theorem dX8_cut_69 : decode cX8_cut 69 = .ok (.aload_n 0, 1) := by decide +kernel
theorem dX8_cut_70 : decode cX8_cut 70 = .ok (.iload 4, 2) := by decide +kernel
theorem dX8_cut_72 : decode cX8_cut 72 = .ok (.iconst 2, 1) := by decide +kernel
theorem dX8_cut_73 : decode cX8_cut 73 = .ok (.invokevirtual 212, 3) := by decide +kernel
theorem dX8_cut_76 : decode cX8_cut 76 = .ok (.iload_n 1, 1) := by decide +kernel
theorem dX8_cut_77 : decode cX8_cut 77 = .ok (.isub, 1) := by decide +kernel
theorem dX8_cut_78 : decode cX8_cut 78 = .ok (.iload_n 2, 1) := by decide +kernel
theorem dX8_cut_79 : decode cX8_cut 79 = .ok (.if_icmp .lt 31, 3) := by decide +kernel
theorem dX8_cut_82 : decode cX8_cut 82 = .ok (.aload_n 0, 1) := by decide +kernel
theorem dX8_cut_83 : decode cX8_cut 83 = .ok (.iload 4, 2) := by decide +kernel
theorem dX8_cut_85 : decode cX8_cut 85 = .ok (.iconst 0, 1) := by decide +kernel
theorem dX8_cut_86 : decode cX8_cut 86 = .ok (.invokevirtual 212, 3) := by decide +kernel
theorem dX8_cut_89 : decode cX8_cut 89 = .ok (.istore 5, 2) := by decide +kernel
theorem dX8_cut_91 : decode cX8_cut 91 = .ok (.iload_n 3, 1) := by decide +kernel
theorem dX8_cut_92 : decode cX8_cut 92 = .ok (.iload 5, 2) := by decide +kernel
theorem dX8_cut_94 : decode cX8_cut 94 = .ok (.iconst 4, 1) := by decide +kernel
theorem dX8_cut_95 : decode cX8_cut 95 = .ok (.if_icmp .ne 7, 3) := by decide +kernel
theorem dX8_cut_98 : decode cX8_cut 98 = .ok (.iconst 0, 1) := by decide +kernel
theorem dX8_cut_99 : decode cX8_cut 99 = .ok (.goto 9, 3) := by decide +kernel
theorem dX8_cut_102 : decode cX8_cut 102 = .ok (.iconst 1, 1) := by decide +kernel
theorem dX8_cut_103 : decode cX8_cut 103 = .ok (.iload 5, 2) := by decide +kernel
theorem dX8_cut_105 : decode cX8_cut 105 = .ok (.ishl, 1) := by decide +kernel
theorem dX8_cut_106 : decode cX8_cut 106 = .ok (.iconst (-1), 1) := by decide +kernel
theorem dX8_cut_107 : decode cX8_cut 107 = .ok (.ixor, 1) := by decide +kernel
theorem dX8_cut_108 : decode cX8_cut 108 = .ok (.iand, 1) := by decide +kernel
theorem dX8_cut_109 : decode cX8_cut 109 = .ok (.istore_n 3, 1) := by decide +kernel
theorem dX8_cut_110 : decode cX8_cut 110 = .ok (.iinc 4 1, 3) := by decide +kernel
theorem dX8_cut_113 : decode cX8_cut 113 = .ok (.goto (-65), 3) := by decide +kernel
theorem dX8_cut_116 : decode cX8_cut 116 = .ok (.iload_n 3, 1) := by decide +kernel
theorem dX8_cut_117 : decode cX8_cut 117 = .ok (.ireturn, 1) := by decide +kernel
theorem yv_X8_cut : YV yX8_cut cX8_cut 6 (some .int) 2 := ⟨m1268, m1269, m9, m1270, ⟨by decide +kernel, by decide +kernel, by decide +kernel⟩, by decide⟩
noncomputable def f_X8_cut_48 (q : Nat) : Nat → Int32 → Int32 → Int32 → Int32 → AH → Option (Int32 × AH)
  | 0, _, _, _, _, _ => none
  | n + 1, x1, x2, x3, x4, h => ck 0 100 (if (h (q + 4) (0 : Int32).toNatClampNeg) ≤ x4 then (some (x3, h)) else (bd (f_X8_archOf q x4 4 h) (fun v_3 h_2 => if v_3 = 0 then (bd (f_X8_archOf q x4 2 h_2) (fun v_6 h_5 => if (v_6 - x1) < x2 then (lt (x4 + 1) (fun v_7 => (f_X8_cut_48 q n) x1 x2 x3 v_7 h_5)) else (bd (f_X8_archOf q x4 0 h_5) (fun v_9 h_8 => if v_9 = 4 then (lt ((x3 &&& 0)) (fun v_12 => lt (x4 + 1) (fun v_13 => (f_X8_cut_48 q n) x1 x2 v_12 v_13 h_8))) else (lt ((x3 &&& ((1 <<< (v_9 &&& 31)) ^^^ (-1)))) (fun v_10 => lt (x4 + 1) (fun v_11 => (f_X8_cut_48 q n) x1 x2 v_10 v_11 h_8))))))) else (lt (x4 + 1) (fun v_4 => (f_X8_cut_48 q n) x1 x2 x3 v_4 h_2)))))
set_option maxRecDepth 20000 in
set_option maxHeartbeats 4000000 in
theorem t_X8_cut_48 {z : MC} {g : GC} {A : Nat → Prop} (F : Fx z cX8_cut 6 RX8 (some .int) 2 g A) {q : Nat} (hq : (gL g)[q]? = some (.inl 8)) : ∀ (n : Nat) (x1 : Int32) (x2 : Int32) (x3 : Int32) (x4 : Int32) (h : AH), Snd z 6 g A (QF z g A mkI) 48 [(0, .ref (gad g q)), (1, .int x1), (2, .int x2), (3, .int x3), (4, .int x4)] [] h (f_X8_cut_48 q n x1 x2 x3 x4 h) := by
  intro n
  induction n with
  | zero => intros; exact s_none
  | succ n ih =>
    intro x1 x2 x3 x4 h
    unfold f_X8_cut_48
    refine s_iload F dX8_cut_48 4 rfl ?_
    refine s_aload_n F dX8_cut_50 rfl 0 rfl ?_
    have hw_1 := wf_ref F.2.2.2.2.2.2.1 hq 5 4 (.inr (0, 100)) rfl
    refine s_getr F ciX8 5 4 (.inr (0, 100)) hq (by decide) rfl rfl m898 dX8_cut_51 ?_
    refine s_iconst F (v := 0) dX8_cut_54 (by decide) ?_
    refine s_iald F hw_1 dX8_cut_55 ?_
    refine s_icmp_ge F 116 dX8_cut_56 (by decide) (fun _ => ?_) (fun _ => ?_)
    · refine s_iload_n F dX8_cut_116 rfl 3 rfl ?_
      exact s_iret F dX8_cut_117
    · refine s_aload_n F dX8_cut_59 rfl 0 rfl ?_
      refine s_iload F dX8_cut_60 4 rfl ?_
      refine s_iconst F (v := 4) dX8_cut_62 (by decide) ?_
      refine s_callVi (f := fun hh => f_X8_archOf q x4 4 hh) (As := [.int x4, .int 4]) F yv_X8_archOf (ct_X8_archOf z.2.1 g hq x4 4) (by decide) m1154 hq rfl rfl rfl (Nat.le_of_ble_eq_true rfl) dX8_cut_63 (fun v_3 h_2 e_v_3 => ?_)
      refine s_if_ne F 110 dX8_cut_66 (by decide) (fun _ => ?_) (fun _ => ?_)
      · refine s_iincv F dX8_cut_110 4 rfl (by decide) (c := 1) (by decide) (fun v_4 => ?_)
        refine s_lv (lv' := [(4, .int v_4), (0, .ref (gad g q)), (1, .int x1), (2, .int x2), (3, .int x3)]) rfl ?_
        refine s_goto F 48 dX8_cut_113 (by decide) ?_
        exact s_sub [1, 2, 3, 4, 0] rfl (ih x1 x2 x3 v_4 h_2)
      · refine s_aload_n F dX8_cut_69 rfl 0 rfl ?_
        refine s_iload F dX8_cut_70 4 rfl ?_
        refine s_iconst F (v := 2) dX8_cut_72 (by decide) ?_
        refine s_callVi (f := fun hh => f_X8_archOf q x4 2 hh) (As := [.int x4, .int 2]) F yv_X8_archOf (ct_X8_archOf z.2.1 g hq x4 2) (by decide) m1154 hq rfl rfl rfl (Nat.le_of_ble_eq_true rfl) dX8_cut_73 (fun v_6 h_5 e_v_6 => ?_)
        refine s_iload_n F dX8_cut_76 rfl 1 rfl ?_
        refine s_isub F dX8_cut_77 ?_
        refine s_iload_n F dX8_cut_78 rfl 2 rfl ?_
        refine s_icmp_lt F 110 dX8_cut_79 (by decide) (fun _ => ?_) (fun _ => ?_)
        · refine s_iincv F dX8_cut_110 4 rfl (by decide) (c := 1) (by decide) (fun v_7 => ?_)
          refine s_lv (lv' := [(4, .int v_7), (0, .ref (gad g q)), (1, .int x1), (2, .int x2), (3, .int x3)]) rfl ?_
          refine s_goto F 48 dX8_cut_113 (by decide) ?_
          exact s_sub [1, 2, 3, 4, 0] rfl (ih x1 x2 x3 v_7 h_5)
        · refine s_aload_n F dX8_cut_82 rfl 0 rfl ?_
          refine s_iload F dX8_cut_83 4 rfl ?_
          refine s_iconst F (v := 0) dX8_cut_85 (by decide) ?_
          refine s_callVi (f := fun hh => f_X8_archOf q x4 0 hh) (As := [.int x4, .int 0]) F yv_X8_archOf (ct_X8_archOf z.2.1 g hq x4 0) (by decide) m1154 hq rfl rfl rfl (Nat.le_of_ble_eq_true rfl) dX8_cut_86 (fun v_9 h_8 e_v_9 => ?_)
          refine s_istore F (lv' := [(5, .int v_9), (0, .ref (gad g q)), (1, .int x1), (2, .int x2), (3, .int x3), (4, .int x4)]) dX8_cut_89 (by decide) rfl ?_
          refine s_iload_n F dX8_cut_91 rfl 4 rfl ?_
          refine s_iload F dX8_cut_92 0 rfl ?_
          refine s_iconst F (v := 4) dX8_cut_94 (by decide) ?_
          refine s_icmp_ne F 102 dX8_cut_95 (by decide) (fun _ => ?_) (fun _ => ?_)
          · refine s_iconst F (v := 1) dX8_cut_102 (by decide) ?_
            refine s_iload F dX8_cut_103 0 rfl ?_
            refine s_ishl F dX8_cut_105 ?_
            refine s_iconst F (v := (-1)) dX8_cut_106 (by decide) ?_
            refine s_ixor F dX8_cut_107 ?_
            refine s_iand F dX8_cut_108 ?_
            refine s_leti (fun v_10 => ?_)
            refine s_istore_n F (lv' := [(3, .int v_10), (5, .int v_9), (0, .ref (gad g q)), (1, .int x1), (2, .int x2), (4, .int x4)]) dX8_cut_109 rfl (by decide) rfl ?_
            refine s_iincv F dX8_cut_110 5 rfl (by decide) (c := 1) (by decide) (fun v_11 => ?_)
            refine s_lv (lv' := [(4, .int v_11), (3, .int v_10), (5, .int v_9), (0, .ref (gad g q)), (1, .int x1), (2, .int x2)]) rfl ?_
            refine s_goto F 48 dX8_cut_113 (by decide) ?_
            exact s_sub [3, 4, 5, 1, 0] rfl (ih x1 x2 v_10 v_11 h_8)
          · refine s_iconst F (v := 0) dX8_cut_98 (by decide) ?_
            refine s_goto F 108 dX8_cut_99 (by decide) ?_
            refine s_iand F dX8_cut_108 ?_
            refine s_leti (fun v_12 => ?_)
            refine s_istore_n F (lv' := [(3, .int v_12), (5, .int v_9), (0, .ref (gad g q)), (1, .int x1), (2, .int x2), (4, .int x4)]) dX8_cut_109 rfl (by decide) rfl ?_
            refine s_iincv F dX8_cut_110 5 rfl (by decide) (c := 1) (by decide) (fun v_13 => ?_)
            refine s_lv (lv' := [(4, .int v_13), (3, .int v_12), (5, .int v_9), (0, .ref (gad g q)), (1, .int x1), (2, .int x2)]) rfl ?_
            refine s_goto F 48 dX8_cut_113 (by decide) ?_
            exact s_sub [3, 4, 5, 1, 0] rfl (ih x1 x2 v_12 v_13 h_8)
noncomputable def f_X8_cut (q : Nat) (x1 : Int32) (x2 : Int32) (h : AH) : Option (Int32 × AH) := lt (hset h q 0 0) (fun h_1 => if (h_1 q 7) = 0 then (some ((-1000002), h_1)) else (bd (f_X8_in ((x1 : Int32).toInt64) 0 30 h_1) (fun v_3 h_2 => if v_3 = 0 then (some ((-1000001), h_2)) else (bd (f_X8_in ((x2 : Int32).toInt64) 0 20 h_2) (fun v_5 h_4 => if v_5 = 0 then (some ((-1000001), h_4)) else (f_X8_cut_48 q fu x1 x2 15 0 h_4))))))
set_option maxRecDepth 20000 in
set_option maxHeartbeats 4000000 in
theorem ct_X8_cut (l : Launch) (g : GC) {q : Nat} (hq : (gL g)[q]? = some (.inl 8)) (x1 : Int32) (x2 : Int32) : Ct l yX8_cut cX8_cut 6 (some .int) 2 [.ref (gad g q), .int x1, .int x2] g mkI (fun h => f_X8_cut q x1 x2 h) := by
  refine Ct.of (by decide +kernel) (Nat.le_of_ble_eq_true rfl) (fun z A h _ F => ?_)
  show Snd z 6 g A (QF z g A mkI) 0 [(0, .ref (gad g q)), (1, .int x1), (2, .int x2)] [] h (f_X8_cut q x1 x2 h)
  unfold f_X8_cut
  refine s_aload_n F dX8_cut_0 rfl 0 rfl ?_
  refine s_iconst F (v := 0) dX8_cut_1 (by decide) ?_
  refine s_put F ciX8 (k := 0) hq (by decide) rfl rfl rfl rfl m893 dX8_cut_2 ?_
  refine s_letH (fun h_1 => ?_)
  refine s_aload_n F dX8_cut_5 rfl 0 rfl ?_
  refine s_geti F ciX8 7 hq (by decide) rfl rfl m900 dX8_cut_6 ?_
  refine s_if_ne F 15 dX8_cut_9 (by decide) (fun _ => ?_) (fun _ => ?_)
  · refine s_iload_n F dX8_cut_15 rfl 1 rfl ?_
    refine s_i2l F dX8_cut_16 ?_
    refine s_lconst F (v := 0) dX8_cut_17 (by decide) ?_
    refine s_ldc2 F (v := 30) dX8_cut_18 m1271 ?_
    refine s_callSi (f := fun hh => f_X8_in ((x1 : Int32).toInt64) 0 30 hh) (As := [.long ((x1 : Int32).toInt64), .long 0, .long 30]) F ys_X8_in (ct_X8_in z.2.1 g ((x1 : Int32).toInt64) 0 30) (by decide) m1005 rfl rfl (Nat.le_of_ble_eq_true rfl) dX8_cut_21 (fun v_3 h_2 e_v_3 => ?_)
    refine s_if_eq F 39 dX8_cut_24 (by decide) (fun _ => ?_) (fun _ => ?_)
    · refine s_ldc F (v := (-1000001)) dX8_cut_39 m1009 ?_
      exact s_iret F dX8_cut_41
    · refine s_iload_n F dX8_cut_27 rfl 2 rfl ?_
      refine s_i2l F dX8_cut_28 ?_
      refine s_lconst F (v := 0) dX8_cut_29 (by decide) ?_
      refine s_ldc2 F (v := 20) dX8_cut_30 m1272 ?_
      refine s_callSi (f := fun hh => f_X8_in ((x2 : Int32).toInt64) 0 20 hh) (As := [.long ((x2 : Int32).toInt64), .long 0, .long 20]) F ys_X8_in (ct_X8_in z.2.1 g ((x2 : Int32).toInt64) 0 20) (by decide) m1005 rfl rfl (Nat.le_of_ble_eq_true rfl) dX8_cut_33 (fun v_5 h_4 e_v_5 => ?_)
      refine s_if_ne F 42 dX8_cut_36 (by decide) (fun _ => ?_) (fun _ => ?_)
      · refine s_bipush F (v := 15) dX8_cut_42 (by decide) ?_
        refine s_istore_n F (lv' := [(3, .int 15), (0, .ref (gad g q)), (1, .int x1), (2, .int x2)]) dX8_cut_44 rfl (by decide) rfl ?_
        refine s_iconst F (v := 0) dX8_cut_45 (by decide) ?_
        refine s_istore F (lv' := [(4, .int 0), (3, .int 15), (0, .ref (gad g q)), (1, .int x1), (2, .int x2)]) dX8_cut_46 (by decide) rfl ?_
        exact s_sub [2, 3, 4, 1, 0] rfl (t_X8_cut_48 F hq fu x1 x2 15 0 h_4)
      · refine s_ldc F (v := (-1000001)) dX8_cut_39 m1009 ?_
        exact s_iret F dX8_cut_41
  · refine s_ldc F (v := (-1000002)) dX8_cut_12 m1169 ?_
    exact s_iret F dX8_cut_14
theorem dX8_weightOf_0 : decode cX8_weightOf 0 = .ok (.iload_n 0, 1) := by decide +kernel
theorem dX8_weightOf_1 : decode cX8_weightOf 1 = .ok (.ifCond .ne 7, 3) := by decide +kernel
theorem dX8_weightOf_4 : decode cX8_weightOf 4 = .ok (.iconst 3, 1) := by decide +kernel
theorem dX8_weightOf_5 : decode cX8_weightOf 5 = .ok (.goto 24, 3) := by decide +kernel
theorem dX8_weightOf_8 : decode cX8_weightOf 8 = .ok (.iload_n 0, 1) := by decide +kernel
theorem dX8_weightOf_9 : decode cX8_weightOf 9 = .ok (.iconst 1, 1) := by decide +kernel
theorem dX8_weightOf_10 : decode cX8_weightOf 10 = .ok (.if_icmp .ne 7, 3) := by decide +kernel
theorem dX8_weightOf_13 : decode cX8_weightOf 13 = .ok (.iconst 5, 1) := by decide +kernel
theorem dX8_weightOf_14 : decode cX8_weightOf 14 = .ok (.goto 15, 3) := by decide +kernel
theorem dX8_weightOf_17 : decode cX8_weightOf 17 = .ok (.iload_n 0, 1) := by decide +kernel
theorem dX8_weightOf_18 : decode cX8_weightOf 18 = .ok (.iconst 2, 1) := by decide +kernel
theorem dX8_weightOf_19 : decode cX8_weightOf 19 = .ok (.if_icmp .ne 8, 3) := by decide +kernel
theorem dX8_weightOf_22 : decode cX8_weightOf 22 = .ok (.bipush 7, 2) := by decide +kernel
theorem dX8_weightOf_24 : decode cX8_weightOf 24 = .ok (.goto 5, 3) := by decide +kernel
theorem dX8_weightOf_27 : decode cX8_weightOf 27 = .ok (.bipush 11, 2) := by decide +kernel
theorem dX8_weightOf_29 : decode cX8_weightOf 29 = .ok (.ireturn, 1) := by decide +kernel
theorem ys_X8_weightOf : YS yX8_weightOf cX8_weightOf 1 (some .int) 1 := ⟨m1278, m9, m1279, ⟨by decide +kernel, by decide +kernel, by decide +kernel⟩, by decide⟩
noncomputable def f_X8_weightOf (x0 : Int32) (h : AH) : Option (Int32 × AH) := if x0 = 0 then (some (3, h)) else (if x0 = 1 then (some (5, h)) else (if x0 = 2 then (some (7, h)) else (some (11, h))))
set_option maxRecDepth 20000 in
set_option maxHeartbeats 4000000 in
theorem ct_X8_weightOf (l : Launch) (g : GC) (x0 : Int32) : Ct l yX8_weightOf cX8_weightOf 1 (some .int) 1 [.int x0] g mkI (fun h => f_X8_weightOf x0 h) := by
  refine Ct.of (by decide +kernel) (Nat.le_of_ble_eq_true rfl) (fun z A h _ F => ?_)
  show Snd z 1 g A (QF z g A mkI) 0 [(0, .int x0)] [] h (f_X8_weightOf x0 h)
  unfold f_X8_weightOf
  refine s_iload_n F dX8_weightOf_0 rfl 0 rfl ?_
  refine s_if_ne F 8 dX8_weightOf_1 (by decide) (fun _ => ?_) (fun _ => ?_)
  · refine s_iload_n F dX8_weightOf_8 rfl 0 rfl ?_
    refine s_iconst F (v := 1) dX8_weightOf_9 (by decide) ?_
    refine s_icmp_ne F 17 dX8_weightOf_10 (by decide) (fun _ => ?_) (fun _ => ?_)
    · refine s_iload_n F dX8_weightOf_17 rfl 0 rfl ?_
      refine s_iconst F (v := 2) dX8_weightOf_18 (by decide) ?_
      refine s_icmp_ne F 27 dX8_weightOf_19 (by decide) (fun _ => ?_) (fun _ => ?_)
      · refine s_bipush F (v := 11) dX8_weightOf_27 (by decide) ?_
        exact s_iret F dX8_weightOf_29
      · refine s_bipush F (v := 7) dX8_weightOf_22 (by decide) ?_
        refine s_goto F 29 dX8_weightOf_24 (by decide) ?_
        exact s_iret F dX8_weightOf_29
    · refine s_iconst F (v := 5) dX8_weightOf_13 (by decide) ?_
      refine s_goto F 29 dX8_weightOf_14 (by decide) ?_
      exact s_iret F dX8_weightOf_29
  · refine s_iconst F (v := 3) dX8_weightOf_4 (by decide) ?_
    refine s_goto F 29 dX8_weightOf_5 (by decide) ?_
    exact s_iret F dX8_weightOf_29
theorem dX8_weighed_0 : decode cX8_weighed 0 = .ok (.aload_n 0, 1) := by decide +kernel
theorem dX8_weighed_1 : decode cX8_weighed 1 = .ok (.iconst 0, 1) := by decide +kernel
theorem dX8_weighed_2 : decode cX8_weighed 2 = .ok (.putfield 65, 3) := by decide +kernel
theorem dX8_weighed_5 : decode cX8_weighed 5 = .ok (.aload_n 0, 1) := by decide +kernel
theorem dX8_weighed_6 : decode cX8_weighed 6 = .ok (.getfield 195, 3) := by decide +kernel
theorem dX8_weighed_9 : decode cX8_weighed 9 = .ok (.ifCond .ne 6, 3) := by decide +kernel
theorem dX8_weighed_12 : decode cX8_weighed 12 = .ok (.ldc 244, 2) := by decide +kernel
theorem dX8_weighed_14 : decode cX8_weighed 14 = .ok (.ireturn, 1) := by decide +kernel
theorem dX8_weighed_15 : decode cX8_weighed 15 = .ok (.iload_n 1, 1) := by decide +kernel
theorem dX8_weighed_16 : decode cX8_weighed 16 = .ok (.invokestatic 79, 3) := by decide +kernel
theorem dX8_weighed_19 : decode cX8_weighed 19 = .ok (.ifCond .ne 6, 3) := by decide +kernel
theorem dX8_weighed_22 : decode cX8_weighed 22 = .ok (.ldc 85, 2) := by decide +kernel
theorem dX8_weighed_24 : decode cX8_weighed 24 = .ok (.ireturn, 1) := by decide +kernel
theorem dX8_weighed_25 : decode cX8_weighed 25 = .ok (.aload_n 0, 1) := by decide +kernel
theorem dX8_weighed_26 : decode cX8_weighed 26 = .ok (.getfield 7, 3) := by decide +kernel
theorem dX8_weighed_29 : decode cX8_weighed 29 = .ok (.iload_n 1, 1) := by decide +kernel
theorem dX8_weighed_30 : decode cX8_weighed 30 = .ok (.iaload, 1) := by decide +kernel
theorem dX8_weighed_31 : decode cX8_weighed 31 = .ok (.ifCond .ge 9, 3) := by decide +kernel
theorem dX8_weighed_34 : decode cX8_weighed 34 = .ok (.aload_n 0, 1) := by decide +kernel
theorem dX8_weighed_35 : decode cX8_weighed 35 = .ok (.iconst 1, 1) := by decide +kernel
theorem dX8_weighed_36 : decode cX8_weighed 36 = .ok (.invokevirtual 86, 3) := by decide +kernel
theorem dX8_weighed_39 : decode cX8_weighed 39 = .ok (.ireturn, 1) := by decide +kernel
theorem dX8_weighed_40 : decode cX8_weighed 40 = .ok (.iload_n 2, 1) := by decide +kernel
theorem dX8_weighed_41 : decode cX8_weighed 41 = .ok (.ifCond .lt 24, 3) := by decide +kernel
theorem dX8_weighed_44 : decode cX8_weighed 44 = .ok (.iload_n 2, 1) := by decide +kernel
theorem dX8_weighed_45 : decode cX8_weighed 45 = .ok (.i2l, 1) := by decide +kernel
theorem dX8_weighed_46 : decode cX8_weighed 46 = .ok (.aload_n 0, 1) := by decide +kernel
theorem dX8_weighed_47 : decode cX8_weighed 47 = .ok (.getfield 19, 3) := by decide +kernel
theorem dX8_weighed_50 : decode cX8_weighed 50 = .ok (.iconst 1, 1) := by decide +kernel
theorem dX8_weighed_51 : decode cX8_weighed 51 = .ok (.iaload, 1) := by decide +kernel
theorem dX8_weighed_52 : decode cX8_weighed 52 = .ok (.i2l, 1) := by decide +kernel
theorem dX8_weighed_53 : decode cX8_weighed 53 = .ok (.ladd, 1) := by decide +kernel
theorem dX8_weighed_54 : decode cX8_weighed 54 = .ok (.aload_n 0, 1) := by decide +kernel
theorem dX8_weighed_55 : decode cX8_weighed 55 = .ok (.getfield 13, 3) := by decide +kernel
theorem dX8_weighed_58 : decode cX8_weighed 58 = .ok (.iload_n 1, 1) := by decide +kernel
theorem dX8_weighed_59 : decode cX8_weighed 59 = .ok (.iaload, 1) := by decide +kernel
theorem dX8_weighed_60 : decode cX8_weighed 60 = .ok (.i2l, 1) := by decide +kernel
theorem dX8_weighed_61 : decode cX8_weighed 61 = .ok (.lcmp, 1) := by decide +kernel
theorem dX8_weighed_62 : decode cX8_weighed 62 = .ok (.ifCond .le 9, 3) := by decide +kernel
theorem dX8_weighed_65 : decode cX8_weighed 65 = .ok (.aload_n 0, 1) := by decide +kernel
theorem dX8_weighed_66 : decode cX8_weighed 66 = .ok (.iconst 2, 1) := by decide +kernel
theorem dX8_weighed_67 : decode cX8_weighed 67 = .ok (.invokevirtual 86, 3) := by decide +kernel
theorem dX8_weighed_70 : decode cX8_weighed 70 = .ok (.ireturn, 1) := by decide +kernel
theorem dX8_weighed_71 : decode cX8_weighed 71 = .ok (.iconst 0, 1) := by decide +kernel
theorem dX8_weighed_72 : decode cX8_weighed 72 = .ok (.istore_n 3, 1) := by decide +kernel
theorem dX8_weighed_73 : decode cX8_weighed 73 = .ok (.iload_n 3, 1) := by decide +kernel
theorem dX8_weighed_74 : decode cX8_weighed 74 = .ok (.aload_n 0, 1) := by decide +kernel
theorem dX8_weighed_75 : decode cX8_weighed 75 = .ok (.getfield 19, 3) := by decide +kernel
theorem dX8_weighed_78 : decode cX8_weighed 78 = .ok (.iconst 1, 1) := by decide +kernel
theorem dX8_weighed_79 : decode cX8_weighed 79 = .ok (.iaload, 1) := by decide +kernel
theorem dX8_weighed_80 : decode cX8_weighed 80 = .ok (.if_icmp .ge 31, 3) := by decide +kernel
theorem dX8_weighed_83 : decode cX8_weighed 83 = .ok (.aload_n 0, 1) := by decide +kernel
theorem dX8_weighed_84 : decode cX8_weighed 84 = .ok (.getfield 16, 3) := by decide +kernel
theorem dX8_weighed_87 : decode cX8_weighed 87 = .ok (.bipush 40, 2) := by decide +kernel
theorem dX8_weighed_89 : decode cX8_weighed 89 = .ok (.iload_n 1, 1) := by decide +kernel
theorem dX8_weighed_90 : decode cX8_weighed 90 = .ok (.imul, 1) := by decide +kernel
theorem dX8_weighed_91 : decode cX8_weighed 91 = .ok (.iload_n 2, 1) := by decide +kernel
theorem dX8_weighed_92 : decode cX8_weighed 92 = .ok (.iadd, 1) := by decide +kernel
theorem dX8_weighed_93 : decode cX8_weighed 93 = .ok (.iload_n 3, 1) := by decide +kernel
theorem dX8_weighed_94 : decode cX8_weighed 94 = .ok (.iadd, 1) := by decide +kernel
theorem dX8_weighed_95 : decode cX8_weighed 95 = .ok (.iaload, 1) := by decide +kernel
theorem dX8_weighed_96 : decode cX8_weighed 96 = .ok (.invokestatic 251, 3) := by decide +kernel
theorem dX8_weighed_99 : decode cX8_weighed 99 = .ok (.ifCond .ne 6, 3) := by decide +kernel
theorem dX8_weighed_102 : decode cX8_weighed 102 = .ok (.ldc 85, 2) := by decide +kernel
theorem dX8_weighed_104 : decode cX8_weighed 104 = .ok (.ireturn, 1) := by decide +kernel
theorem dX8_weighed_105 : decode cX8_weighed 105 = .ok (.iinc 3 1, 3) := by decide +kernel
theorem dX8_weighed_108 : decode cX8_weighed 108 = .ok (.goto (-35), 3) := by decide +kernel
theorem dX8_weighed_111 : decode cX8_weighed 111 = .ok (.aload_n 0, 1) := by decide +kernel
theorem dX8_weighed_112 : decode cX8_weighed 112 = .ok (.iconst 0, 1) := by decide +kernel
theorem dX8_weighed_113 : decode cX8_weighed 113 = .ok (.putfield 69, 3) := by decide +kernel
theorem dX8_weighed_116 : decode cX8_weighed 116 = .ok (.iconst 0, 1) := by decide +kernel
theorem dX8_weighed_117 : decode cX8_weighed 117 = .ok (.istore_n 3, 1) := by decide +kernel
theorem dX8_weighed_118 : decode cX8_weighed 118 = .ok (.iconst 0, 1) := by decide +kernel
theorem dX8_weighed_119 : decode cX8_weighed 119 = .ok (.istore 4, 2) := by decide +kernel
theorem dX8_weighed_121 : decode cX8_weighed 121 = .ok (.iload 4, 2) := by decide +kernel
theorem dX8_weighed_123 : decode cX8_weighed 123 = .ok (.aload_n 0, 1) := by decide +kernel
theorem dX8_weighed_124 : decode cX8_weighed 124 = .ok (.getfield 19, 3) := by decide +kernel
theorem dX8_weighed_127 : decode cX8_weighed 127 = .ok (.iconst 1, 1) := by decide +kernel
theorem dX8_weighed_128 : decode cX8_weighed 128 = .ok (.iaload, 1) := by decide +kernel
theorem dX8_weighed_129 : decode cX8_weighed 129 = .ok (.if_icmp .ge 88, 3) := by decide +kernel
theorem dX8_weighed_132 : decode cX8_weighed 132 = .ok (.iconst 0, 1) := by decide +kernel
theorem dX8_weighed_133 : decode cX8_weighed 133 = .ok (.istore 5, 2) := by decide +kernel
theorem dX8_weighed_135 : decode cX8_weighed 135 = .ok (.iconst 0, 1) := by decide +kernel
theorem dX8_weighed_136 : decode cX8_weighed 136 = .ok (.istore 6, 2) := by decide +kernel
theorem dX8_weighed_138 : decode cX8_weighed 138 = .ok (.iload 6, 2) := by decide +kernel
theorem dX8_weighed_140 : decode cX8_weighed 140 = .ok (.iconst 4, 1) := by decide +kernel
theorem dX8_weighed_141 : decode cX8_weighed 141 = .ok (.if_icmp .ge 30, 3) := by decide +kernel
theorem dX8_weighed_144 : decode cX8_weighed 144 = .ok (.iload 5, 2) := by decide +kernel
theorem dX8_weighed_146 : decode cX8_weighed 146 = .ok (.aload_n 0, 1) := by decide +kernel
theorem dX8_weighed_147 : decode cX8_weighed 147 = .ok (.iload 4, 2) := by decide +kernel
theorem dX8_weighed_149 : decode cX8_weighed 149 = .ok (.iconst 2, 1) := by decide +kernel
theorem dX8_weighed_150 : decode cX8_weighed 150 = .ok (.iload 6, 2) := by decide +kernel
theorem dX8_weighed_152 : decode cX8_weighed 152 = .ok (.iadd, 1) := by decide +kernel
theorem dX8_weighed_153 : decode cX8_weighed 153 = .ok (.invokevirtual 206, 3) := by decide +kernel
theorem dX8_weighed_156 : decode cX8_weighed 156 = .ok (.iload 6, 2) := by decide +kernel
theorem dX8_weighed_158 : decode cX8_weighed 158 = .ok (.invokestatic 308, 3) := by decide +kernel
theorem dX8_weighed_161 : decode cX8_weighed 161 = .ok (.imul, 1) := by decide +kernel
theorem dX8_weighed_162 : decode cX8_weighed 162 = .ok (.iadd, 1) := by decide +kernel
theorem dX8_weighed_163 : decode cX8_weighed 163 = .ok (.istore 5, 2) := by decide +kernel
theorem dX8_weighed_165 : decode cX8_weighed 165 = .ok (.iinc 6 1, 3) := by decide +kernel
theorem dX8_weighed_168 : decode cX8_weighed 168 = .ok (.goto (-30), 3) := by decide +kernel
theorem dX8_weighed_171 : decode cX8_weighed 171 = .ok (.iload_n 3, 1) := by decide +kernel
theorem dX8_weighed_172 : decode cX8_weighed 172 = .ok (.iload 5, 2) := by decide +kernel
theorem dX8_weighed_174 : decode cX8_weighed 174 = .ok (.aload_n 0, 1) := by decide +kernel
theorem dX8_weighed_175 : decode cX8_weighed 175 = .ok (.iload 4, 2) := by decide +kernel
theorem dX8_weighed_177 : decode cX8_weighed 177 = .ok (.invokevirtual 245, 3) := by decide +kernel
theorem dX8_weighed_180 : decode cX8_weighed 180 = .ok (.aload_n 0, 1) := by decide +kernel
theorem dX8_weighed_181 : decode cX8_weighed 181 = .ok (.getfield 16, 3) := by decide +kernel
theorem dX8_weighed_184 : decode cX8_weighed 184 = .ok (.bipush 40, 2) := by decide +kernel
theorem dX8_weighed_186 : decode cX8_weighed 186 = .ok (.iload_n 1, 1) := by decide +kernel
theorem dX8_weighed_187 : decode cX8_weighed 187 = .ok (.imul, 1) := by decide +kernel
theorem dX8_weighed_188 : decode cX8_weighed 188 = .ok (.iload_n 2, 1) := by decide +kernel
theorem dX8_weighed_189 : decode cX8_weighed 189 = .ok (.iadd, 1) := by decide +kernel
theorem dX8_weighed_190 : decode cX8_weighed 190 = .ok (.iload 4, 2) := by decide +kernel
theorem dX8_weighed_192 : decode cX8_weighed 192 = .ok (.iadd, 1) := by decide +kernel
theorem dX8_weighed_193 : decode cX8_weighed 193 = .ok (.iaload, 1) := by decide +kernel
theorem dX8_weighed_194 : decode cX8_weighed 194 = .ok (.invokestatic 308, 3) := by decide +kernel
theorem dX8_weighed_197 : decode cX8_weighed 197 = .ok (.imul, 1) := by decide +kernel
theorem dX8_weighed_198 : decode cX8_weighed 198 = .ok (.if_icmp .eq 10, 3) := by decide +kernel
theorem dX8_weighed_201 : decode cX8_weighed 201 = .ok (.iconst 1, 1) := by decide +kernel
theorem dX8_weighed_202 : decode cX8_weighed 202 = .ok (.iload 4, 2) := by decide +kernel
theorem dX8_weighed_204 : decode cX8_weighed 204 = .ok (.ishl, 1) := by decide +kernel
theorem dX8_weighed_205 : decode cX8_weighed 205 = .ok (.goto 4, 3) := by decide +kernel
theorem dX8_weighed_208 : decode cX8_weighed 208 = .ok (.iconst 0, 1) := by decide +kernel
theorem dX8_weighed_209 : decode cX8_weighed 209 = .ok (.ior, 1) := by decide +kernel
theorem dX8_weighed_210 : decode cX8_weighed 210 = .ok (.istore_n 3, 1) := by decide +kernel
theorem dX8_weighed_211 : decode cX8_weighed 211 = .ok (.iinc 4 1, 3) := by decide +kernel
theorem dX8_weighed_214 : decode cX8_weighed 214 = .ok (.goto (-93), 3) := by decide +kernel
theorem dX8_weighed_217 : decode cX8_weighed 217 = .ok (.iload_n 3, 1) := by decide +kernel
theorem dX8_weighed_218 : decode cX8_weighed 218 = .ok (.ireturn, 1) := by decide +kernel
theorem yv_X8_weighed : YV yX8_weighed cX8_weighed 7 (some .int) 2 := ⟨m1274, m1275, m9, m1276, ⟨by decide +kernel, by decide +kernel, by decide +kernel⟩, by decide⟩
noncomputable def f_X8_weighed_138 (q : Nat) (K121 : Int32 → Int32 → Int32 → Int32 → AH → Option (Int32 × AH)) : Nat → Int32 → Int32 → Int32 → Int32 → Int32 → Int32 → AH → Option (Int32 × AH)
  | 0, _, _, _, _, _, _, _ => none
  | n + 1, x1, x2, x3, x4, x5, x6, h => if (4 : Int32) ≤ x6 then (bd (f_X8_allOf q x4 h) (fun v_2 h_1 => lt ((((40 * x1) + x2) + x4)) (fun v_4 => ck v_4 320 (bd (f_X8_weightOf (h_1 (q + 3) (v_4 : Int32).toNatClampNeg) h_1) (fun v_6 h_5 => if x5 = (v_2 * v_6) then (lt ((x3 ||| 0)) (fun v_7 => lt (x4 + 1) (fun v_8 => K121 x1 x2 v_7 v_8 h_5))) else (lt ((x3 ||| (1 <<< (x4 &&& 31)))) (fun v_9 => lt (x4 + 1) (fun v_10 => K121 x1 x2 v_9 v_10 h_5)))))))) else (bd (f_X8_of q x4 (2 + x6) h) (fun v_12 h_11 => bd (f_X8_weightOf x6 h_11) (fun v_14 h_13 => lt ((x5 + (v_12 * v_14))) (fun v_15 => lt (x6 + 1) (fun v_16 => (f_X8_weighed_138 q K121 n) x1 x2 x3 x4 v_15 v_16 h_13)))))
set_option maxRecDepth 20000 in
set_option maxHeartbeats 4000000 in
theorem t_X8_weighed_138 {z : MC} {g : GC} {A : Nat → Prop} (F : Fx z cX8_weighed 7 RX8 (some .int) 3 g A) {q : Nat} (hq : (gL g)[q]? = some (.inl 8)) (K121 : Int32 → Int32 → Int32 → Int32 → AH → Option (Int32 × AH)) (hK121 : ∀ (x1 : Int32) (x2 : Int32) (x3 : Int32) (x4 : Int32) (h : AH), Snd z 7 g A (QF z g A mkI) 121 [(0, .ref (gad g q)), (1, .int x1), (2, .int x2), (3, .int x3), (4, .int x4)] [] h (K121 x1 x2 x3 x4 h)) : ∀ (n : Nat) (x1 : Int32) (x2 : Int32) (x3 : Int32) (x4 : Int32) (x5 : Int32) (x6 : Int32) (h : AH), Snd z 7 g A (QF z g A mkI) 138 [(0, .ref (gad g q)), (1, .int x1), (2, .int x2), (3, .int x3), (4, .int x4), (5, .int x5), (6, .int x6)] [] h (f_X8_weighed_138 q K121 n x1 x2 x3 x4 x5 x6 h) := by
  intro n
  induction n with
  | zero => intros; exact s_none
  | succ n ih =>
    intro x1 x2 x3 x4 x5 x6 h
    unfold f_X8_weighed_138
    refine s_iload F dX8_weighed_138 6 rfl ?_
    refine s_iconst F (v := 4) dX8_weighed_140 (by decide) ?_
    refine s_icmp_ge F 171 dX8_weighed_141 (by decide) (fun _ => ?_) (fun _ => ?_)
    · refine s_iload_n F dX8_weighed_171 rfl 3 rfl ?_
      refine s_iload F dX8_weighed_172 5 rfl ?_
      refine s_aload_n F dX8_weighed_174 rfl 0 rfl ?_
      refine s_iload F dX8_weighed_175 4 rfl ?_
      refine s_callVi (f := fun hh => f_X8_allOf q x4 hh) (As := [.int x4]) F yv_X8_allOf (ct_X8_allOf z.2.1 g hq x4) (by decide) m1170 hq rfl rfl rfl (Nat.le_of_ble_eq_true rfl) dX8_weighed_177 (fun v_2 h_1 e_v_2 => ?_)
      refine s_aload_n F dX8_weighed_180 rfl 0 rfl ?_
      have hw_3 := wf_ref F.2.2.2.2.2.2.1 hq 4 3 (.inr (0, 320)) rfl
      refine s_getr F ciX8 4 3 (.inr (0, 320)) hq (by decide) rfl rfl m897 dX8_weighed_181 ?_
      refine s_bipush F (v := 40) dX8_weighed_184 (by decide) ?_
      refine s_iload_n F dX8_weighed_186 rfl 1 rfl ?_
      refine s_imul F dX8_weighed_187 ?_
      refine s_iload_n F dX8_weighed_188 rfl 2 rfl ?_
      refine s_iadd F dX8_weighed_189 ?_
      refine s_iload F dX8_weighed_190 4 rfl ?_
      refine s_iadd F dX8_weighed_192 ?_
      refine s_leti (fun v_4 => ?_)
      refine s_iald F hw_3 dX8_weighed_193 ?_
      refine s_callSi (f := fun hh => f_X8_weightOf (h_1 (q + 3) (v_4 : Int32).toNatClampNeg) hh) (As := [.int (h_1 (q + 3) (v_4 : Int32).toNatClampNeg)]) F ys_X8_weightOf (ct_X8_weightOf z.2.1 g (h_1 (q + 3) (v_4 : Int32).toNatClampNeg)) (by decide) m1277 rfl rfl (Nat.le_of_ble_eq_true rfl) dX8_weighed_194 (fun v_6 h_5 e_v_6 => ?_)
      refine s_imul F dX8_weighed_197 ?_
      refine s_icmp_eq F 208 dX8_weighed_198 (by decide) (fun _ => ?_) (fun _ => ?_)
      · refine s_iconst F (v := 0) dX8_weighed_208 (by decide) ?_
        refine s_ior F dX8_weighed_209 ?_
        refine s_leti (fun v_7 => ?_)
        refine s_istore_n F (lv' := [(3, .int v_7), (0, .ref (gad g q)), (1, .int x1), (2, .int x2), (4, .int x4), (5, .int x5), (6, .int x6)]) dX8_weighed_210 rfl (by decide) rfl ?_
        refine s_iincv F dX8_weighed_211 4 rfl (by decide) (c := 1) (by decide) (fun v_8 => ?_)
        refine s_lv (lv' := [(4, .int v_8), (3, .int v_7), (0, .ref (gad g q)), (1, .int x1), (2, .int x2), (5, .int x5), (6, .int x6)]) rfl ?_
        refine s_goto F 121 dX8_weighed_214 (by decide) ?_
        exact s_sub [2, 3, 4, 1, 0] rfl (hK121 x1 x2 v_7 v_8 h_5)
      · refine s_iconst F (v := 1) dX8_weighed_201 (by decide) ?_
        refine s_iload F dX8_weighed_202 4 rfl ?_
        refine s_ishl F dX8_weighed_204 ?_
        refine s_goto F 209 dX8_weighed_205 (by decide) ?_
        refine s_ior F dX8_weighed_209 ?_
        refine s_leti (fun v_9 => ?_)
        refine s_istore_n F (lv' := [(3, .int v_9), (0, .ref (gad g q)), (1, .int x1), (2, .int x2), (4, .int x4), (5, .int x5), (6, .int x6)]) dX8_weighed_210 rfl (by decide) rfl ?_
        refine s_iincv F dX8_weighed_211 4 rfl (by decide) (c := 1) (by decide) (fun v_10 => ?_)
        refine s_lv (lv' := [(4, .int v_10), (3, .int v_9), (0, .ref (gad g q)), (1, .int x1), (2, .int x2), (5, .int x5), (6, .int x6)]) rfl ?_
        refine s_goto F 121 dX8_weighed_214 (by decide) ?_
        exact s_sub [2, 3, 4, 1, 0] rfl (hK121 x1 x2 v_9 v_10 h_5)
    · refine s_iload F dX8_weighed_144 5 rfl ?_
      refine s_aload_n F dX8_weighed_146 rfl 0 rfl ?_
      refine s_iload F dX8_weighed_147 4 rfl ?_
      refine s_iconst F (v := 2) dX8_weighed_149 (by decide) ?_
      refine s_iload F dX8_weighed_150 6 rfl ?_
      refine s_iadd F dX8_weighed_152 ?_
      refine s_callVi (f := fun hh => f_X8_of q x4 (2 + x6) hh) (As := [.int x4, .int (2 + x6)]) F yv_X8_of (ct_X8_of z.2.1 g hq x4 (2 + x6)) (by decide) m1146 hq rfl rfl rfl (Nat.le_of_ble_eq_true rfl) dX8_weighed_153 (fun v_12 h_11 e_v_12 => ?_)
      refine s_iload F dX8_weighed_156 6 rfl ?_
      refine s_callSi (f := fun hh => f_X8_weightOf x6 hh) (As := [.int x6]) F ys_X8_weightOf (ct_X8_weightOf z.2.1 g x6) (by decide) m1277 rfl rfl (Nat.le_of_ble_eq_true rfl) dX8_weighed_158 (fun v_14 h_13 e_v_14 => ?_)
      refine s_imul F dX8_weighed_161 ?_
      refine s_iadd F dX8_weighed_162 ?_
      refine s_leti (fun v_15 => ?_)
      refine s_istore F (lv' := [(5, .int v_15), (0, .ref (gad g q)), (1, .int x1), (2, .int x2), (3, .int x3), (4, .int x4), (6, .int x6)]) dX8_weighed_163 (by decide) rfl ?_
      refine s_iincv F dX8_weighed_165 6 rfl (by decide) (c := 1) (by decide) (fun v_16 => ?_)
      refine s_lv (lv' := [(6, .int v_16), (5, .int v_15), (0, .ref (gad g q)), (1, .int x1), (2, .int x2), (3, .int x3), (4, .int x4)]) rfl ?_
      refine s_goto F 138 dX8_weighed_168 (by decide) ?_
      exact s_sub [2, 3, 4, 5, 6, 1, 0] rfl (ih x1 x2 x3 x4 v_15 v_16 h_13)
noncomputable def f_X8_weighed_121 (q : Nat) : Nat → Int32 → Int32 → Int32 → Int32 → AH → Option (Int32 × AH)
  | 0, _, _, _, _, _ => none
  | n + 1, x1, x2, x3, x4, h => ck 1 100 (if (h (q + 4) (1 : Int32).toNatClampNeg) ≤ x4 then (some (x3, h)) else (f_X8_weighed_138 q (f_X8_weighed_121 q n) fu x1 x2 x3 x4 0 0 h))
set_option maxRecDepth 20000 in
set_option maxHeartbeats 4000000 in
theorem t_X8_weighed_121 {z : MC} {g : GC} {A : Nat → Prop} (F : Fx z cX8_weighed 7 RX8 (some .int) 3 g A) {q : Nat} (hq : (gL g)[q]? = some (.inl 8)) : ∀ (n : Nat) (x1 : Int32) (x2 : Int32) (x3 : Int32) (x4 : Int32) (h : AH), Snd z 7 g A (QF z g A mkI) 121 [(0, .ref (gad g q)), (1, .int x1), (2, .int x2), (3, .int x3), (4, .int x4)] [] h (f_X8_weighed_121 q n x1 x2 x3 x4 h) := by
  intro n
  induction n with
  | zero => intros; exact s_none
  | succ n ih =>
    intro x1 x2 x3 x4 h
    unfold f_X8_weighed_121
    refine s_iload F dX8_weighed_121 4 rfl ?_
    refine s_aload_n F dX8_weighed_123 rfl 0 rfl ?_
    have hw_1 := wf_ref F.2.2.2.2.2.2.1 hq 5 4 (.inr (0, 100)) rfl
    refine s_getr F ciX8 5 4 (.inr (0, 100)) hq (by decide) rfl rfl m898 dX8_weighed_124 ?_
    refine s_iconst F (v := 1) dX8_weighed_127 (by decide) ?_
    refine s_iald F hw_1 dX8_weighed_128 ?_
    refine s_icmp_ge F 217 dX8_weighed_129 (by decide) (fun _ => ?_) (fun _ => ?_)
    · refine s_iload_n F dX8_weighed_217 rfl 3 rfl ?_
      exact s_iret F dX8_weighed_218
    · refine s_iconst F (v := 0) dX8_weighed_132 (by decide) ?_
      refine s_istore F (lv' := [(5, .int 0), (0, .ref (gad g q)), (1, .int x1), (2, .int x2), (3, .int x3), (4, .int x4)]) dX8_weighed_133 (by decide) rfl ?_
      refine s_iconst F (v := 0) dX8_weighed_135 (by decide) ?_
      refine s_istore F (lv' := [(6, .int 0), (5, .int 0), (0, .ref (gad g q)), (1, .int x1), (2, .int x2), (3, .int x3), (4, .int x4)]) dX8_weighed_136 (by decide) rfl ?_
      exact s_sub [2, 3, 4, 5, 6, 1, 0] rfl (t_X8_weighed_138 F hq (f_X8_weighed_121 q n) ih fu x1 x2 x3 x4 0 0 h)
noncomputable def f_X8_weighed_73 (q : Nat) : Nat → Int32 → Int32 → Int32 → AH → Option (Int32 × AH)
  | 0, _, _, _, _ => none
  | n + 1, x1, x2, x3, h => ck 1 100 (if (h (q + 4) (1 : Int32).toNatClampNeg) ≤ x3 then (lt (hset h q 1 0) (fun h_2 => f_X8_weighed_121 q fu x1 x2 0 0 h_2)) else (lt ((((40 * x1) + x2) + x3)) (fun v_4 => ck v_4 320 (bd (f_X8_isTrade (h (q + 3) (v_4 : Int32).toNatClampNeg) h) (fun v_6 h_5 => if v_6 = 0 then (some ((-1000001), h_5)) else (lt (x3 + 1) (fun v_7 => (f_X8_weighed_73 q n) x1 x2 v_7 h_5)))))))
set_option maxRecDepth 20000 in
set_option maxHeartbeats 4000000 in
theorem t_X8_weighed_73 {z : MC} {g : GC} {A : Nat → Prop} (F : Fx z cX8_weighed 7 RX8 (some .int) 3 g A) {q : Nat} (hq : (gL g)[q]? = some (.inl 8)) : ∀ (n : Nat) (x1 : Int32) (x2 : Int32) (x3 : Int32) (h : AH), Snd z 7 g A (QF z g A mkI) 73 [(0, .ref (gad g q)), (1, .int x1), (2, .int x2), (3, .int x3)] [] h (f_X8_weighed_73 q n x1 x2 x3 h) := by
  intro n
  induction n with
  | zero => intros; exact s_none
  | succ n ih =>
    intro x1 x2 x3 h
    unfold f_X8_weighed_73
    refine s_iload_n F dX8_weighed_73 rfl 3 rfl ?_
    refine s_aload_n F dX8_weighed_74 rfl 0 rfl ?_
    have hw_1 := wf_ref F.2.2.2.2.2.2.1 hq 5 4 (.inr (0, 100)) rfl
    refine s_getr F ciX8 5 4 (.inr (0, 100)) hq (by decide) rfl rfl m898 dX8_weighed_75 ?_
    refine s_iconst F (v := 1) dX8_weighed_78 (by decide) ?_
    refine s_iald F hw_1 dX8_weighed_79 ?_
    refine s_icmp_ge F 111 dX8_weighed_80 (by decide) (fun _ => ?_) (fun _ => ?_)
    · refine s_aload_n F dX8_weighed_111 rfl 0 rfl ?_
      refine s_iconst F (v := 0) dX8_weighed_112 (by decide) ?_
      refine s_put F ciX8 (k := 1) hq (by decide) rfl rfl rfl rfl m894 dX8_weighed_113 ?_
      refine s_letH (fun h_2 => ?_)
      refine s_iconst F (v := 0) dX8_weighed_116 (by decide) ?_
      refine s_istore_n F (lv' := [(3, .int 0), (0, .ref (gad g q)), (1, .int x1), (2, .int x2)]) dX8_weighed_117 rfl (by decide) rfl ?_
      refine s_iconst F (v := 0) dX8_weighed_118 (by decide) ?_
      refine s_istore F (lv' := [(4, .int 0), (3, .int 0), (0, .ref (gad g q)), (1, .int x1), (2, .int x2)]) dX8_weighed_119 (by decide) rfl ?_
      exact s_sub [2, 3, 4, 1, 0] rfl (t_X8_weighed_121 F hq fu x1 x2 0 0 h_2)
    · refine s_aload_n F dX8_weighed_83 rfl 0 rfl ?_
      have hw_3 := wf_ref F.2.2.2.2.2.2.1 hq 4 3 (.inr (0, 320)) rfl
      refine s_getr F ciX8 4 3 (.inr (0, 320)) hq (by decide) rfl rfl m897 dX8_weighed_84 ?_
      refine s_bipush F (v := 40) dX8_weighed_87 (by decide) ?_
      refine s_iload_n F dX8_weighed_89 rfl 1 rfl ?_
      refine s_imul F dX8_weighed_90 ?_
      refine s_iload_n F dX8_weighed_91 rfl 2 rfl ?_
      refine s_iadd F dX8_weighed_92 ?_
      refine s_iload_n F dX8_weighed_93 rfl 3 rfl ?_
      refine s_iadd F dX8_weighed_94 ?_
      refine s_leti (fun v_4 => ?_)
      refine s_iald F hw_3 dX8_weighed_95 ?_
      refine s_callSi (f := fun hh => f_X8_isTrade (h (q + 3) (v_4 : Int32).toNatClampNeg) hh) (As := [.int (h (q + 3) (v_4 : Int32).toNatClampNeg)]) F ys_X8_isTrade (ct_X8_isTrade z.2.1 g (h (q + 3) (v_4 : Int32).toNatClampNeg)) (by decide) m1182 rfl rfl (Nat.le_of_ble_eq_true rfl) dX8_weighed_96 (fun v_6 h_5 e_v_6 => ?_)
      refine s_if_ne F 105 dX8_weighed_99 (by decide) (fun _ => ?_) (fun _ => ?_)
      · refine s_iincv F dX8_weighed_105 3 rfl (by decide) (c := 1) (by decide) (fun v_7 => ?_)
        refine s_lv (lv' := [(3, .int v_7), (0, .ref (gad g q)), (1, .int x1), (2, .int x2)]) rfl ?_
        refine s_goto F 73 dX8_weighed_108 (by decide) ?_
        exact s_sub [1, 2, 3, 0] rfl (ih x1 x2 v_7 h_5)
      · refine s_ldc F (v := (-1000001)) dX8_weighed_102 m1009 ?_
        exact s_iret F dX8_weighed_104
noncomputable def f_X8_weighed (q : Nat) (x1 : Int32) (x2 : Int32) (h : AH) : Option (Int32 × AH) := lt (hset h q 0 0) (fun h_1 => if (h_1 q 7) = 0 then (some ((-1000002), h_1)) else (bd (f_X8_isRow x1 h_1) (fun v_3 h_2 => if v_3 = 0 then (some ((-1000001), h_2)) else (ck x1 8 (if (0 : Int32) ≤ (h_2 (q + 1) (x1 : Int32).toNatClampNeg) then (if x2 < 0 then (bd (f_X8_finding q 2 h_2) (fun v_6 h_5 => some (v_6, h_5))) else (ck 1 100 (ck x1 8 (if (lg_cmp (((x2 : Int32).toInt64) + ((h_2 (q + 4) (1 : Int32).toNatClampNeg : Int32).toInt64)) ((h_2 (q + 2) (x1 : Int32).toNatClampNeg : Int32).toInt64)) ≤ 0 then (f_X8_weighed_73 q fu x1 x2 0 h_2) else (bd (f_X8_finding q 2 h_2) (fun v_10 h_9 => some (v_10, h_9))))))) else (bd (f_X8_finding q 1 h_2) (fun v_12 h_11 => some (v_12, h_11))))))))
set_option maxRecDepth 20000 in
set_option maxHeartbeats 4000000 in
theorem ct_X8_weighed (l : Launch) (g : GC) {q : Nat} (hq : (gL g)[q]? = some (.inl 8)) (x1 : Int32) (x2 : Int32) : Ct l yX8_weighed cX8_weighed 7 (some .int) 3 [.ref (gad g q), .int x1, .int x2] g mkI (fun h => f_X8_weighed q x1 x2 h) := by
  refine Ct.of (by decide +kernel) (Nat.le_of_ble_eq_true rfl) (fun z A h _ F => ?_)
  show Snd z 7 g A (QF z g A mkI) 0 [(0, .ref (gad g q)), (1, .int x1), (2, .int x2)] [] h (f_X8_weighed q x1 x2 h)
  unfold f_X8_weighed
  refine s_aload_n F dX8_weighed_0 rfl 0 rfl ?_
  refine s_iconst F (v := 0) dX8_weighed_1 (by decide) ?_
  refine s_put F ciX8 (k := 0) hq (by decide) rfl rfl rfl rfl m893 dX8_weighed_2 ?_
  refine s_letH (fun h_1 => ?_)
  refine s_aload_n F dX8_weighed_5 rfl 0 rfl ?_
  refine s_geti F ciX8 7 hq (by decide) rfl rfl m900 dX8_weighed_6 ?_
  refine s_if_ne F 15 dX8_weighed_9 (by decide) (fun _ => ?_) (fun _ => ?_)
  · refine s_iload_n F dX8_weighed_15 rfl 1 rfl ?_
    refine s_callSi (f := fun hh => f_X8_isRow x1 hh) (As := [.int x1]) F ys_X8_isRow (ct_X8_isRow z.2.1 g x1) (by decide) m1001 rfl rfl (Nat.le_of_ble_eq_true rfl) dX8_weighed_16 (fun v_3 h_2 e_v_3 => ?_)
    refine s_if_ne F 25 dX8_weighed_19 (by decide) (fun _ => ?_) (fun _ => ?_)
    · refine s_aload_n F dX8_weighed_25 rfl 0 rfl ?_
      have hw_4 := wf_ref F.2.2.2.2.2.2.1 hq 2 1 (.inr (0, 8)) rfl
      refine s_getr F ciX8 2 1 (.inr (0, 8)) hq (by decide) rfl rfl m895 dX8_weighed_26 ?_
      refine s_iload_n F dX8_weighed_29 rfl 1 rfl ?_
      refine s_iald F hw_4 dX8_weighed_30 ?_
      refine s_if_ge F 40 dX8_weighed_31 (by decide) (fun _ => ?_) (fun _ => ?_)
      · refine s_iload_n F dX8_weighed_40 rfl 2 rfl ?_
        refine s_if_lt F 65 dX8_weighed_41 (by decide) (fun _ => ?_) (fun _ => ?_)
        · refine s_aload_n F dX8_weighed_65 rfl 0 rfl ?_
          refine s_iconst F (v := 2) dX8_weighed_66 (by decide) ?_
          refine s_callVi (f := fun hh => f_X8_finding q 2 hh) (As := [.int 2]) F yv_X8_finding (ct_X8_finding z.2.1 g hq 2) (by decide) m1010 hq rfl rfl rfl (Nat.le_of_ble_eq_true rfl) dX8_weighed_67 (fun v_6 h_5 e_v_6 => ?_)
          exact s_iret F dX8_weighed_70
        · refine s_iload_n F dX8_weighed_44 rfl 2 rfl ?_
          refine s_i2l F dX8_weighed_45 ?_
          refine s_aload_n F dX8_weighed_46 rfl 0 rfl ?_
          have hw_7 := wf_ref F.2.2.2.2.2.2.1 hq 5 4 (.inr (0, 100)) rfl
          refine s_getr F ciX8 5 4 (.inr (0, 100)) hq (by decide) rfl rfl m898 dX8_weighed_47 ?_
          refine s_iconst F (v := 1) dX8_weighed_50 (by decide) ?_
          refine s_iald F hw_7 dX8_weighed_51 ?_
          refine s_i2l F dX8_weighed_52 ?_
          refine s_ladd F dX8_weighed_53 ?_
          refine s_aload_n F dX8_weighed_54 rfl 0 rfl ?_
          have hw_8 := wf_ref F.2.2.2.2.2.2.1 hq 3 2 (.inr (0, 8)) rfl
          refine s_getr F ciX8 3 2 (.inr (0, 8)) hq (by decide) rfl rfl m896 dX8_weighed_55 ?_
          refine s_iload_n F dX8_weighed_58 rfl 1 rfl ?_
          refine s_iald F hw_8 dX8_weighed_59 ?_
          refine s_i2l F dX8_weighed_60 ?_
          refine s_lcmp F dX8_weighed_61 ?_
          refine s_if_le F 71 dX8_weighed_62 (by decide) (fun _ => ?_) (fun _ => ?_)
          · refine s_iconst F (v := 0) dX8_weighed_71 (by decide) ?_
            refine s_istore_n F (lv' := [(3, .int 0), (0, .ref (gad g q)), (1, .int x1), (2, .int x2)]) dX8_weighed_72 rfl (by decide) rfl ?_
            exact s_sub [1, 2, 3, 0] rfl (t_X8_weighed_73 F hq fu x1 x2 0 h_2)
          · refine s_aload_n F dX8_weighed_65 rfl 0 rfl ?_
            refine s_iconst F (v := 2) dX8_weighed_66 (by decide) ?_
            refine s_callVi (f := fun hh => f_X8_finding q 2 hh) (As := [.int 2]) F yv_X8_finding (ct_X8_finding z.2.1 g hq 2) (by decide) m1010 hq rfl rfl rfl (Nat.le_of_ble_eq_true rfl) dX8_weighed_67 (fun v_10 h_9 e_v_10 => ?_)
            exact s_iret F dX8_weighed_70
      · refine s_aload_n F dX8_weighed_34 rfl 0 rfl ?_
        refine s_iconst F (v := 1) dX8_weighed_35 (by decide) ?_
        refine s_callVi (f := fun hh => f_X8_finding q 1 hh) (As := [.int 1]) F yv_X8_finding (ct_X8_finding z.2.1 g hq 1) (by decide) m1010 hq rfl rfl rfl (Nat.le_of_ble_eq_true rfl) dX8_weighed_36 (fun v_12 h_11 e_v_12 => ?_)
        exact s_iret F dX8_weighed_39
    · refine s_ldc F (v := (-1000001)) dX8_weighed_22 m1009 ?_
      exact s_iret F dX8_weighed_24
  · refine s_ldc F (v := (-1000002)) dX8_weighed_12 m1169 ?_
    exact s_iret F dX8_weighed_14
