theorem dX3_givePlace_0 : decode cX3_givePlace 0 = .ok (.aload_n 0, 1) := by decide +kernel
theorem dX3_givePlace_1 : decode cX3_givePlace 1 = .ok (.getfield 30, 3) := by decide +kernel
theorem dX3_givePlace_4 : decode cX3_givePlace 4 = .ok (.iload_n 1, 1) := by decide +kernel
theorem dX3_givePlace_5 : decode cX3_givePlace 5 = .ok (.iload_n 2, 1) := by decide +kernel
theorem dX3_givePlace_6 : decode cX3_givePlace 6 = .ok (.iastore, 1) := by decide +kernel
theorem dX3_givePlace_7 : decode cX3_givePlace 7 = .ok (.aload_n 0, 1) := by decide +kernel
theorem dX3_givePlace_8 : decode cX3_givePlace 8 = .ok (.getfield 33, 3) := by decide +kernel
theorem dX3_givePlace_11 : decode cX3_givePlace 11 = .ok (.iload_n 1, 1) := by decide +kernel
theorem dX3_givePlace_12 : decode cX3_givePlace 12 = .ok (.iload_n 3, 1) := by decide +kernel
theorem dX3_givePlace_13 : decode cX3_givePlace 13 = .ok (.iastore, 1) := by decide +kernel
theorem dX3_givePlace_14 : decode cX3_givePlace 14 = .ok (.return_, 1) := by decide +kernel
theorem yv_X3_givePlace : YV yX3_givePlace cX3_givePlace 4 none 3 := ⟨m741, ms18, m7, m742, ⟨by decide +kernel, by decide +kernel, by decide +kernel⟩, by decide⟩
noncomputable def f_X3_givePlace (q : Nat) (x1 : Int32) (x2 : Int32) (x3 : Int32) (h : AH) : Option (Unit × AH) := ck x1 6 (lt (hset h (q + 7) (x1 : Int32).toNatClampNeg x2) (fun h_2 => ck x1 6 (lt (hset h_2 (q + 8) (x1 : Int32).toNatClampNeg x3) (fun h_4 => some ((), h_4)))))
set_option maxRecDepth 20000 in
set_option maxHeartbeats 4000000 in
theorem ct_X3_givePlace (l : Launch) (g : GC) {q : Nat} (hq : (gL g)[q]? = some (.inl 3)) (x1 : Int32) (x2 : Int32) (x3 : Int32) : Ct l yX3_givePlace cX3_givePlace 4 none 1 [.ref (gad g q), .int x1, .int x2, .int x3] g mkU (fun h => f_X3_givePlace q x1 x2 x3 h) := by
  refine Ct.of (by decide +kernel) (Nat.le_of_ble_eq_true rfl) (fun z A h _ F => ?_)
  show Snd z 4 g A (QF z g A mkU) 0 [(0, .ref (gad g q)), (1, .int x1), (2, .int x2), (3, .int x3)] [] h (f_X3_givePlace q x1 x2 x3 h)
  unfold f_X3_givePlace
  refine s_aload_n F dX3_givePlace_0 rfl 0 rfl ?_
  have hw_1 := wf_ref F.2.2.2.2.2.2.1 hq 6 7 (.inr (0, 6)) rfl
  refine s_getr F ciX3 6 7 (.inr (0, 6)) hq (by decide) rfl rfl m198 dX3_givePlace_1 ?_
  refine s_iload_n F dX3_givePlace_4 rfl 1 rfl ?_
  refine s_iload_n F dX3_givePlace_5 rfl 2 rfl ?_
  refine s_iast F hw_1 dX3_givePlace_6 ?_
  refine s_letH (fun h_2 => ?_)
  refine s_aload_n F dX3_givePlace_7 rfl 0 rfl ?_
  have hw_3 := wf_ref F.2.2.2.2.2.2.1 hq 7 8 (.inr (0, 6)) rfl
  refine s_getr F ciX3 7 8 (.inr (0, 6)) hq (by decide) rfl rfl m199 dX3_givePlace_8 ?_
  refine s_iload_n F dX3_givePlace_11 rfl 1 rfl ?_
  refine s_iload_n F dX3_givePlace_12 rfl 3 rfl ?_
  refine s_iast F hw_3 dX3_givePlace_13 ?_
  refine s_letH (fun h_4 => ?_)
  exact s_vret F dX3_givePlace_14
theorem dX3_openHours_0 : decode cX3_openHours 0 = .ok (.aload_n 0, 1) := by decide +kernel
theorem dX3_openHours_1 : decode cX3_openHours 1 = .ok (.getfield 15, 3) := by decide +kernel
theorem dX3_openHours_4 : decode cX3_openHours 4 = .ok (.iload_n 1, 1) := by decide +kernel
theorem dX3_openHours_5 : decode cX3_openHours 5 = .ok (.iaload, 1) := by decide +kernel
theorem dX3_openHours_6 : decode cX3_openHours 6 = .ok (.aload_n 0, 1) := by decide +kernel
theorem dX3_openHours_7 : decode cX3_openHours 7 = .ok (.getfield 18, 3) := by decide +kernel
theorem dX3_openHours_10 : decode cX3_openHours 10 = .ok (.iload_n 2, 1) := by decide +kernel
theorem dX3_openHours_11 : decode cX3_openHours 11 = .ok (.iaload, 1) := by decide +kernel
theorem dX3_openHours_12 : decode cX3_openHours 12 = .ok (.invokestatic 112, 3) := by decide +kernel
theorem dX3_openHours_15 : decode cX3_openHours 15 = .ok (.iconst 1, 1) := by decide +kernel
theorem dX3_openHours_16 : decode cX3_openHours 16 = .ok (.if_icmp .ne 17, 3) := by decide +kernel
theorem dX3_openHours_19 : decode cX3_openHours 19 = .ok (.aload_n 0, 1) := by decide +kernel
theorem dX3_openHours_20 : decode cX3_openHours 20 = .ok (.getfield 9, 3) := by decide +kernel
theorem dX3_openHours_23 : decode cX3_openHours 23 = .ok (.iload_n 1, 1) := by decide +kernel
theorem dX3_openHours_24 : decode cX3_openHours 24 = .ok (.bipush 6, 2) := by decide +kernel
theorem dX3_openHours_26 : decode cX3_openHours 26 = .ok (.imul, 1) := by decide +kernel
theorem dX3_openHours_27 : decode cX3_openHours 27 = .ok (.iload_n 2, 1) := by decide +kernel
theorem dX3_openHours_28 : decode cX3_openHours 28 = .ok (.iadd, 1) := by decide +kernel
theorem dX3_openHours_29 : decode cX3_openHours 29 = .ok (.iaload, 1) := by decide +kernel
theorem dX3_openHours_30 : decode cX3_openHours 30 = .ok (.goto 4, 3) := by decide +kernel
theorem dX3_openHours_33 : decode cX3_openHours 33 = .ok (.iconst 0, 1) := by decide +kernel
theorem dX3_openHours_34 : decode cX3_openHours 34 = .ok (.ireturn, 1) := by decide +kernel
theorem yv_X3_openHours : YV yX3_openHours cX3_openHours 3 (some .int) 2 := ⟨m736, ms17, m7, m737, ⟨by decide +kernel, by decide +kernel, by decide +kernel⟩, by decide⟩
noncomputable def f_X3_openHours (q : Nat) (x1 : Int32) (x2 : Int32) (h : AH) : Option (Int32 × AH) := ck x1 6 (ck x2 6 (bd (f_X7_bitOf (h (q + 2) (x1 : Int32).toNatClampNeg) (h (q + 3) (x2 : Int32).toNatClampNeg) h) (fun v_4 h_3 => if v_4 = 1 then (lt (((x1 * 6) + x2)) (fun v_6 => ck v_6 36 (some (h_3 (q + 1) (v_6 : Int32).toNatClampNeg, h_3)))) else (some (0, h_3)))))
set_option maxRecDepth 20000 in
set_option maxHeartbeats 4000000 in
theorem ct_X3_openHours (l : Launch) (g : GC) {q : Nat} (hq : (gL g)[q]? = some (.inl 3)) (x1 : Int32) (x2 : Int32) : Ct l yX3_openHours cX3_openHours 3 (some .int) 2 [.ref (gad g q), .int x1, .int x2] g mkI (fun h => f_X3_openHours q x1 x2 h) := by
  refine Ct.of (by decide +kernel) (Nat.le_of_ble_eq_true rfl) (fun z A h _ F => ?_)
  show Snd z 3 g A (QF z g A mkI) 0 [(0, .ref (gad g q)), (1, .int x1), (2, .int x2)] [] h (f_X3_openHours q x1 x2 h)
  unfold f_X3_openHours
  refine s_aload_n F dX3_openHours_0 rfl 0 rfl ?_
  have hw_1 := wf_ref F.2.2.2.2.2.2.1 hq 1 2 (.inr (0, 6)) rfl
  refine s_getr F ciX3 1 2 (.inr (0, 6)) hq (by decide) rfl rfl m193 dX3_openHours_1 ?_
  refine s_iload_n F dX3_openHours_4 rfl 1 rfl ?_
  refine s_iald F hw_1 dX3_openHours_5 ?_
  refine s_aload_n F dX3_openHours_6 rfl 0 rfl ?_
  have hw_2 := wf_ref F.2.2.2.2.2.2.1 hq 2 3 (.inr (0, 6)) rfl
  refine s_getr F ciX3 2 3 (.inr (0, 6)) hq (by decide) rfl rfl m194 dX3_openHours_7 ?_
  refine s_iload_n F dX3_openHours_10 rfl 2 rfl ?_
  refine s_iald F hw_2 dX3_openHours_11 ?_
  refine s_callSNi (f := fun hh => f_X7_bitOf (h (q + 2) (x1 : Int32).toNatClampNeg) (h (q + 3) (x2 : Int32).toNatClampNeg) hh) (As := [.int (h (q + 2) (x1 : Int32).toNatClampNeg), .int (h (q + 3) (x2 : Int32).toNatClampNeg)]) F ys_X7_bitOf (ct_X7_bitOf z.2.1 g (h (q + 2) (x1 : Int32).toNatClampNeg) (h (q + 3) (x2 : Int32).toNatClampNeg)) (by decide) (List.mem_of_getElem? (i := 4) rfl) rfl rfl (Nat.le_of_ble_eq_true rfl) dX3_openHours_12 (fun v_4 h_3 e_v_4 => ?_)
  refine s_iconst F (v := 1) dX3_openHours_15 (by decide) ?_
  refine s_icmp_ne F 33 dX3_openHours_16 (by decide) (fun _ => ?_) (fun _ => ?_)
  · refine s_iconst F (v := 0) dX3_openHours_33 (by decide) ?_
    exact s_iret F dX3_openHours_34
  · refine s_aload_n F dX3_openHours_19 rfl 0 rfl ?_
    have hw_5 := wf_ref F.2.2.2.2.2.2.1 hq 0 1 (.inr (0, 36)) rfl
    refine s_getr F ciX3 0 1 (.inr (0, 36)) hq (by decide) rfl rfl m192 dX3_openHours_20 ?_
    refine s_iload_n F dX3_openHours_23 rfl 1 rfl ?_
    refine s_bipush F (v := 6) dX3_openHours_24 (by decide) ?_
    refine s_imul F dX3_openHours_26 ?_
    refine s_iload_n F dX3_openHours_27 rfl 2 rfl ?_
    refine s_iadd F dX3_openHours_28 ?_
    refine s_leti (fun v_6 => ?_)
    refine s_iald F hw_5 dX3_openHours_29 ?_
    refine s_goto F 34 dX3_openHours_30 (by decide) ?_
    exact s_iret F dX3_openHours_34
theorem dX3_findPlace_0 : decode cX3_findPlace 0 = .ok (.iload_n 2, 1) := by decide +kernel
theorem dX3_findPlace_1 : decode cX3_findPlace 1 = .ok (.bipush 6, 2) := by decide +kernel
theorem dX3_findPlace_3 : decode cX3_findPlace 3 = .ok (.if_icmp .le 5, 3) := by decide +kernel
theorem dX3_findPlace_6 : decode cX3_findPlace 6 = .ok (.iconst 0, 1) := by decide +kernel
theorem dX3_findPlace_7 : decode cX3_findPlace 7 = .ok (.ireturn, 1) := by decide +kernel
theorem dX3_findPlace_8 : decode cX3_findPlace 8 = .ok (.iconst 0, 1) := by decide +kernel
theorem dX3_findPlace_9 : decode cX3_findPlace 9 = .ok (.istore_n 3, 1) := by decide +kernel
theorem dX3_findPlace_10 : decode cX3_findPlace 10 = .ok (.iload_n 3, 1) := by decide +kernel
theorem dX3_findPlace_11 : decode cX3_findPlace 11 = .ok (.aload_n 0, 1) := by decide +kernel
theorem dX3_findPlace_12 : decode cX3_findPlace 12 = .ok (.getfield 79, 3) := by decide +kernel
theorem dX3_findPlace_15 : decode cX3_findPlace 15 = .ok (.if_icmp .ge 60, 3) := by decide +kernel
theorem dX3_findPlace_18 : decode cX3_findPlace 18 = .ok (.aload_n 0, 1) := by decide +kernel
theorem dX3_findPlace_19 : decode cX3_findPlace 19 = .ok (.iload_n 1, 1) := by decide +kernel
theorem dX3_findPlace_20 : decode cX3_findPlace 20 = .ok (.iload_n 3, 1) := by decide +kernel
theorem dX3_findPlace_21 : decode cX3_findPlace 21 = .ok (.invokevirtual 128, 3) := by decide +kernel
theorem dX3_findPlace_24 : decode cX3_findPlace 24 = .ok (.aload_n 0, 1) := by decide +kernel
theorem dX3_findPlace_25 : decode cX3_findPlace 25 = .ok (.getfield 27, 3) := by decide +kernel
theorem dX3_findPlace_28 : decode cX3_findPlace 28 = .ok (.iload_n 3, 1) := by decide +kernel
theorem dX3_findPlace_29 : decode cX3_findPlace 29 = .ok (.iaload, 1) := by decide +kernel
theorem dX3_findPlace_30 : decode cX3_findPlace 30 = .ok (.iconst (-1), 1) := by decide +kernel
theorem dX3_findPlace_31 : decode cX3_findPlace 31 = .ok (.ixor, 1) := by decide +kernel
theorem dX3_findPlace_32 : decode cX3_findPlace 32 = .ok (.iand, 1) := by decide +kernel
theorem dX3_findPlace_33 : decode cX3_findPlace 33 = .ok (.istore 4, 2) := by decide +kernel
theorem dX3_findPlace_35 : decode cX3_findPlace 35 = .ok (.iload 4, 2) := by decide +kernel
theorem dX3_findPlace_37 : decode cX3_findPlace 37 = .ok (.ifCond .eq 32, 3) := by decide +kernel
theorem dX3_findPlace_40 : decode cX3_findPlace 40 = .ok (.iload 4, 2) := by decide +kernel
theorem dX3_findPlace_42 : decode cX3_findPlace 42 = .ok (.iload 4, 2) := by decide +kernel
theorem dX3_findPlace_44 : decode cX3_findPlace 44 = .ok (.ineg, 1) := by decide +kernel
theorem dX3_findPlace_45 : decode cX3_findPlace 45 = .ok (.iand, 1) := by decide +kernel
theorem dX3_findPlace_46 : decode cX3_findPlace 46 = .ok (.istore 5, 2) := by decide +kernel
theorem dX3_findPlace_48 : decode cX3_findPlace 48 = .ok (.aload_n 0, 1) := by decide +kernel
theorem dX3_findPlace_49 : decode cX3_findPlace 49 = .ok (.getfield 27, 3) := by decide +kernel
theorem dX3_findPlace_52 : decode cX3_findPlace 52 = .ok (.iload_n 3, 1) := by decide +kernel
theorem dX3_findPlace_53 : decode cX3_findPlace 53 = .ok (.dup2, 1) := by decide +kernel
theorem dX3_findPlace_54 : decode cX3_findPlace 54 = .ok (.iaload, 1) := by decide +kernel
theorem dX3_findPlace_55 : decode cX3_findPlace 55 = .ok (.iload 5, 2) := by decide +kernel
theorem dX3_findPlace_57 : decode cX3_findPlace 57 = .ok (.ior, 1) := by decide +kernel
theorem dX3_findPlace_58 : decode cX3_findPlace 58 = .ok (.iastore, 1) := by decide +kernel
theorem dX3_findPlace_59 : decode cX3_findPlace 59 = .ok (.aload_n 0, 1) := by decide +kernel
theorem dX3_findPlace_60 : decode cX3_findPlace 60 = .ok (.iload_n 1, 1) := by decide +kernel
theorem dX3_findPlace_61 : decode cX3_findPlace 61 = .ok (.iload_n 3, 1) := by decide +kernel
theorem dX3_findPlace_62 : decode cX3_findPlace 62 = .ok (.iload 5, 2) := by decide +kernel
theorem dX3_findPlace_64 : decode cX3_findPlace 64 = .ok (.invokevirtual 131, 3) := by decide +kernel
theorem dX3_findPlace_67 : decode cX3_findPlace 67 = .ok (.iconst 1, 1) := by decide +kernel
theorem dX3_findPlace_68 : decode cX3_findPlace 68 = .ok (.ireturn, 1) := by decide +kernel
theorem dX3_findPlace_69 : decode cX3_findPlace 69 = .ok (.iinc 3 1, 3) := by decide +kernel
theorem dX3_findPlace_72 : decode cX3_findPlace 72 = .ok (.goto (-62), 3) := by decide +kernel
theorem dX3_findPlace_75 : decode cX3_findPlace 75 = .ok (.iconst 0, 1) := by decide +kernel
theorem dX3_findPlace_76 : decode cX3_findPlace 76 = .ok (.istore_n 3, 1) := by decide +kernel
theorem dX3_findPlace_77 : decode cX3_findPlace 77 = .ok (.iload_n 3, 1) := by decide +kernel
theorem dX3_findPlace_78 : decode cX3_findPlace 78 = .ok (.aload_n 0, 1) := by decide +kernel
theorem dX3_findPlace_79 : decode cX3_findPlace 79 = .ok (.getfield 83, 3) := by decide +kernel
theorem dX3_findPlace_82 : decode cX3_findPlace 82 = .ok (.if_icmp .ge 87, 3) := by decide +kernel
theorem dX3_findPlace_85 : decode cX3_findPlace 85 = .ok (.aload_n 0, 1) := by decide +kernel
theorem dX3_findPlace_86 : decode cX3_findPlace 86 = .ok (.getfield 30, 3) := by decide +kernel
theorem dX3_findPlace_89 : decode cX3_findPlace 89 = .ok (.iload_n 3, 1) := by decide +kernel
theorem dX3_findPlace_90 : decode cX3_findPlace 90 = .ok (.iaload, 1) := by decide +kernel
theorem dX3_findPlace_91 : decode cX3_findPlace 91 = .ok (.istore 4, 2) := by decide +kernel
theorem dX3_findPlace_93 : decode cX3_findPlace 93 = .ok (.aload_n 0, 1) := by decide +kernel
theorem dX3_findPlace_94 : decode cX3_findPlace 94 = .ok (.getfield 33, 3) := by decide +kernel
theorem dX3_findPlace_97 : decode cX3_findPlace 97 = .ok (.iload_n 3, 1) := by decide +kernel
theorem dX3_findPlace_98 : decode cX3_findPlace 98 = .ok (.iaload, 1) := by decide +kernel
theorem dX3_findPlace_99 : decode cX3_findPlace 99 = .ok (.istore 5, 2) := by decide +kernel
theorem dX3_findPlace_101 : decode cX3_findPlace 101 = .ok (.aload_n 0, 1) := by decide +kernel
theorem dX3_findPlace_102 : decode cX3_findPlace 102 = .ok (.getfield 121, 3) := by decide +kernel
theorem dX3_findPlace_105 : decode cX3_findPlace 105 = .ok (.iload_n 3, 1) := by decide +kernel
theorem dX3_findPlace_106 : decode cX3_findPlace 106 = .ok (.invokestatic 112, 3) := by decide +kernel
theorem dX3_findPlace_109 : decode cX3_findPlace 109 = .ok (.iconst 1, 1) := by decide +kernel
theorem dX3_findPlace_110 : decode cX3_findPlace 110 = .ok (.if_icmp .eq 53, 3) := by decide +kernel
theorem dX3_findPlace_113 : decode cX3_findPlace 113 = .ok (.aload_n 0, 1) := by decide +kernel
theorem dX3_findPlace_114 : decode cX3_findPlace 114 = .ok (.iload_n 1, 1) := by decide +kernel
theorem dX3_findPlace_115 : decode cX3_findPlace 115 = .ok (.iload 4, 2) := by decide +kernel
theorem dX3_findPlace_117 : decode cX3_findPlace 117 = .ok (.invokevirtual 128, 3) := by decide +kernel
theorem dX3_findPlace_120 : decode cX3_findPlace 120 = .ok (.iload 5, 2) := by decide +kernel
theorem dX3_findPlace_122 : decode cX3_findPlace 122 = .ok (.iand, 1) := by decide +kernel
theorem dX3_findPlace_123 : decode cX3_findPlace 123 = .ok (.ifCond .ne 6, 3) := by decide +kernel
theorem dX3_findPlace_126 : decode cX3_findPlace 126 = .ok (.goto 37, 3) := by decide +kernel
theorem dX3_findPlace_129 : decode cX3_findPlace 129 = .ok (.aload_n 0, 1) := by decide +kernel
theorem dX3_findPlace_130 : decode cX3_findPlace 130 = .ok (.dup, 1) := by decide +kernel
theorem dX3_findPlace_131 : decode cX3_findPlace 131 = .ok (.getfield 121, 3) := by decide +kernel
theorem dX3_findPlace_134 : decode cX3_findPlace 134 = .ok (.iconst 1, 1) := by decide +kernel
theorem dX3_findPlace_135 : decode cX3_findPlace 135 = .ok (.iload_n 3, 1) := by decide +kernel
theorem dX3_findPlace_136 : decode cX3_findPlace 136 = .ok (.ishl, 1) := by decide +kernel
theorem dX3_findPlace_137 : decode cX3_findPlace 137 = .ok (.ior, 1) := by decide +kernel
theorem dX3_findPlace_138 : decode cX3_findPlace 138 = .ok (.putfield 121, 3) := by decide +kernel
theorem dX3_findPlace_141 : decode cX3_findPlace 141 = .ok (.aload_n 0, 1) := by decide +kernel
theorem dX3_findPlace_142 : decode cX3_findPlace 142 = .ok (.iload_n 3, 1) := by decide +kernel
theorem dX3_findPlace_143 : decode cX3_findPlace 143 = .ok (.iload_n 2, 1) := by decide +kernel
theorem dX3_findPlace_144 : decode cX3_findPlace 144 = .ok (.iconst 1, 1) := by decide +kernel
theorem dX3_findPlace_145 : decode cX3_findPlace 145 = .ok (.iadd, 1) := by decide +kernel
theorem dX3_findPlace_146 : decode cX3_findPlace 146 = .ok (.invokevirtual 124, 3) := by decide +kernel
theorem dX3_findPlace_149 : decode cX3_findPlace 149 = .ok (.ifCond .eq 14, 3) := by decide +kernel
theorem dX3_findPlace_152 : decode cX3_findPlace 152 = .ok (.aload_n 0, 1) := by decide +kernel
theorem dX3_findPlace_153 : decode cX3_findPlace 153 = .ok (.iload_n 1, 1) := by decide +kernel
theorem dX3_findPlace_154 : decode cX3_findPlace 154 = .ok (.iload 4, 2) := by decide +kernel
theorem dX3_findPlace_156 : decode cX3_findPlace 156 = .ok (.iload 5, 2) := by decide +kernel
theorem dX3_findPlace_158 : decode cX3_findPlace 158 = .ok (.invokevirtual 131, 3) := by decide +kernel
theorem dX3_findPlace_161 : decode cX3_findPlace 161 = .ok (.iconst 1, 1) := by decide +kernel
theorem dX3_findPlace_162 : decode cX3_findPlace 162 = .ok (.ireturn, 1) := by decide +kernel
theorem dX3_findPlace_163 : decode cX3_findPlace 163 = .ok (.iinc 3 1, 3) := by decide +kernel
theorem dX3_findPlace_166 : decode cX3_findPlace 166 = .ok (.goto (-89), 3) := by decide +kernel
theorem dX3_findPlace_169 : decode cX3_findPlace 169 = .ok (.iconst 0, 1) := by decide +kernel
theorem dX3_findPlace_170 : decode cX3_findPlace 170 = .ok (.ireturn, 1) := by decide +kernel
theorem yv_X3_findPlace : YV yX3_findPlace cX3_findPlace 6 (some .boolean) 2 := ⟨m732, ms16, m7, m733, ⟨by decide +kernel, by decide +kernel, by decide +kernel⟩, by decide⟩
noncomputable def f_X3_findPlace_77 (q : Nat) (rc : Nat → Int32 → Int32 → AH → Option (Int32 × AH)) : Nat → Int32 → Int32 → Int32 → AH → Option (Int32 × AH)
  | 0, _, _, _, _ => none
  | n + 1, x1, x2, x3, h => if (h q 9) ≤ x3 then (some (0, h)) else (ck x3 6 (lt (h (q + 7) (x3 : Int32).toNatClampNeg) (fun v_2 => ck x3 6 (lt (h (q + 8) (x3 : Int32).toNatClampNeg) (fun v_4 => bd (f_X7_bitOf (h q 10) x3 h) (fun v_6 h_5 => if v_6 = 1 then (lt (x3 + 1) (fun v_7 => (f_X3_findPlace_77 q rc n) x1 x2 v_7 h_5)) else (bd (f_X3_openHours q x1 v_2 h_5) (fun v_9 h_8 => if (v_9 &&& v_4) = 0 then (lt (x3 + 1) (fun v_16 => (f_X3_findPlace_77 q rc n) x1 x2 v_16 h_8)) else (lt (hset h_8 q 10 ((h_8 q 10) ||| (1 <<< (x3 &&& 31)))) (fun h_10 => bd (rc q x3 (x2 + 1) h_10) (fun v_12 h_11 => if v_12 = 0 then (lt (x3 + 1) (fun v_13 => (f_X3_findPlace_77 q rc n) x1 x2 v_13 h_11)) else (bd (f_X3_givePlace q x1 v_2 v_4 h_11) (fun _ h_14 => some (1, h_14))))))))))))))
set_option maxRecDepth 20000 in
set_option maxHeartbeats 4000000 in
theorem t_X3_findPlace_77 {z : MC} {g : GC} {A : Nat → Prop} {lv0 : Nat} (F : Fx z cX3_findPlace 6 RX3 (some .boolean) (lv0 + 1) g A) (hlv0 : 3 ≤ lv0) {q : Nat} (hq : (gL g)[q]? = some (.inl 3)) (rc : Nat → Int32 → Int32 → AH → Option (Int32 × AH)) (hrc : ∀ {q : Nat} (_ : (gL g)[q]? = some (.inl 3)), ∀ (x1 : Int32), ∀ (x2 : Int32), Ct z.2.1 yX3_findPlace cX3_findPlace 6 (some .boolean) lv0 [.ref (gad g q), .int x1, .int x2] g mkI (fun hh => rc q x1 x2 hh)) : ∀ (n : Nat) (x1 : Int32) (x2 : Int32) (x3 : Int32) (h : AH), Snd z 6 g A (QF z g A mkI) 77 [(0, .ref (gad g q)), (1, .int x1), (2, .int x2), (3, .int x3)] [] h (f_X3_findPlace_77 q rc n x1 x2 x3 h) := by
  intro n
  induction n with
  | zero => intros; exact s_none
  | succ n ih =>
    intro x1 x2 x3 h
    unfold f_X3_findPlace_77
    refine s_iload_n F dX3_findPlace_77 rfl 3 rfl ?_
    refine s_aload_n F dX3_findPlace_78 rfl 0 rfl ?_
    refine s_geti F ciX3 9 hq (by decide) rfl rfl m201 dX3_findPlace_79 ?_
    refine s_icmp_ge F 169 dX3_findPlace_82 (by decide) (fun _ => ?_) (fun _ => ?_)
    · refine s_iconst F (v := 0) dX3_findPlace_169 (by decide) ?_
      exact s_zret1 F (by decide) dX3_findPlace_170
    · refine s_aload_n F dX3_findPlace_85 rfl 0 rfl ?_
      have hw_1 := wf_ref F.2.2.2.2.2.2.1 hq 6 7 (.inr (0, 6)) rfl
      refine s_getr F ciX3 6 7 (.inr (0, 6)) hq (by decide) rfl rfl m198 dX3_findPlace_86 ?_
      refine s_iload_n F dX3_findPlace_89 rfl 3 rfl ?_
      refine s_iald F hw_1 dX3_findPlace_90 ?_
      refine s_leti (fun v_2 => ?_)
      refine s_istore F (lv' := [(4, .int v_2), (0, .ref (gad g q)), (1, .int x1), (2, .int x2), (3, .int x3)]) dX3_findPlace_91 (by decide) rfl ?_
      refine s_aload_n F dX3_findPlace_93 rfl 1 rfl ?_
      have hw_3 := wf_ref F.2.2.2.2.2.2.1 hq 7 8 (.inr (0, 6)) rfl
      refine s_getr F ciX3 7 8 (.inr (0, 6)) hq (by decide) rfl rfl m199 dX3_findPlace_94 ?_
      refine s_iload_n F dX3_findPlace_97 rfl 4 rfl ?_
      refine s_iald F hw_3 dX3_findPlace_98 ?_
      refine s_leti (fun v_4 => ?_)
      refine s_istore F (lv' := [(5, .int v_4), (4, .int v_2), (0, .ref (gad g q)), (1, .int x1), (2, .int x2), (3, .int x3)]) dX3_findPlace_99 (by decide) rfl ?_
      refine s_aload_n F dX3_findPlace_101 rfl 2 rfl ?_
      refine s_geti F ciX3 10 hq (by decide) rfl rfl m202 dX3_findPlace_102 ?_
      refine s_iload_n F dX3_findPlace_105 rfl 5 rfl ?_
      refine s_callSNi (f := fun hh => f_X7_bitOf (h q 10) x3 hh) (As := [.int (h q 10), .int x3]) F ys_X7_bitOf (ct_X7_bitOf z.2.1 g (h q 10) x3) (by omega) (List.mem_of_getElem? (i := 4) rfl) rfl rfl (Nat.le_of_ble_eq_true rfl) dX3_findPlace_106 (fun v_6 h_5 e_v_6 => ?_)
      refine s_iconst F (v := 1) dX3_findPlace_109 (by decide) ?_
      refine s_icmp_eq F 163 dX3_findPlace_110 (by decide) (fun _ => ?_) (fun _ => ?_)
      · refine s_iincv F dX3_findPlace_163 5 rfl (by decide) (c := 1) (by decide) (fun v_7 => ?_)
        refine s_lv (lv' := [(3, .int v_7), (5, .int v_4), (4, .int v_2), (0, .ref (gad g q)), (1, .int x1), (2, .int x2)]) rfl ?_
        refine s_goto F 77 dX3_findPlace_166 (by decide) ?_
        exact s_sub [3, 4, 5, 0] rfl (ih x1 x2 v_7 h_5)
      · refine s_aload_n F dX3_findPlace_113 rfl 2 rfl ?_
        refine s_iload_n F dX3_findPlace_114 rfl 3 rfl ?_
        refine s_iload F dX3_findPlace_115 1 rfl ?_
        refine s_callVi (f := fun hh => f_X3_openHours q x1 v_2 hh) (As := [.int x1, .int v_2]) F yv_X3_openHours (ct_X3_openHours z.2.1 g hq x1 v_2) (by omega) m734 hq rfl rfl rfl (Nat.le_of_ble_eq_true rfl) dX3_findPlace_117 (fun v_9 h_8 e_v_9 => ?_)
        refine s_iload F dX3_findPlace_120 0 rfl ?_
        refine s_iand F dX3_findPlace_122 ?_
        refine s_if_ne F 129 dX3_findPlace_123 (by decide) (fun _ => ?_) (fun _ => ?_)
        · refine s_aload_n F dX3_findPlace_129 rfl 2 rfl ?_
          refine s_dup F dX3_findPlace_130 rfl ?_
          refine s_geti F ciX3 10 hq (by decide) rfl rfl m202 dX3_findPlace_131 ?_
          refine s_iconst F (v := 1) dX3_findPlace_134 (by decide) ?_
          refine s_iload_n F dX3_findPlace_135 rfl 5 rfl ?_
          refine s_ishl F dX3_findPlace_136 ?_
          refine s_ior F dX3_findPlace_137 ?_
          refine s_put F ciX3 (k := 10) hq (by decide) rfl rfl rfl rfl m202 dX3_findPlace_138 ?_
          refine s_letH (fun h_10 => ?_)
          refine s_aload_n F dX3_findPlace_141 rfl 2 rfl ?_
          refine s_iload_n F dX3_findPlace_142 rfl 5 rfl ?_
          refine s_iload_n F dX3_findPlace_143 rfl 4 rfl ?_
          refine s_iconst F (v := 1) dX3_findPlace_144 (by decide) ?_
          refine s_iadd F dX3_findPlace_145 ?_
          refine s_callVi (f := fun hh => rc q x3 (x2 + 1) hh) (As := [.int x3, .int (x2 + 1)]) F yv_X3_findPlace (hrc hq x3 (x2 + 1)) (Nat.le_refl _) m730 hq rfl rfl rfl (Nat.le_of_ble_eq_true rfl) dX3_findPlace_146 (fun v_12 h_11 e_v_12 => ?_)
          refine s_if_eq F 163 dX3_findPlace_149 (by decide) (fun _ => ?_) (fun _ => ?_)
          · refine s_iincv F dX3_findPlace_163 5 rfl (by decide) (c := 1) (by decide) (fun v_13 => ?_)
            refine s_lv (lv' := [(3, .int v_13), (5, .int v_4), (4, .int v_2), (0, .ref (gad g q)), (1, .int x1), (2, .int x2)]) rfl ?_
            refine s_goto F 77 dX3_findPlace_166 (by decide) ?_
            exact s_sub [3, 4, 5, 0] rfl (ih x1 x2 v_13 h_11)
          · refine s_aload_n F dX3_findPlace_152 rfl 2 rfl ?_
            refine s_iload_n F dX3_findPlace_153 rfl 3 rfl ?_
            refine s_iload F dX3_findPlace_154 1 rfl ?_
            refine s_iload F dX3_findPlace_156 0 rfl ?_
            refine s_callVu (f := fun hh => f_X3_givePlace q x1 v_2 v_4 hh) (As := [.int x1, .int v_2, .int v_4]) F yv_X3_givePlace (ct_X3_givePlace z.2.1 g hq x1 v_2 v_4) (by omega) m739 hq rfl rfl rfl (Nat.le_of_ble_eq_true rfl) dX3_findPlace_158 (fun _ h_14 e_v_15 => ?_)
            refine s_iconst F (v := 1) dX3_findPlace_161 (by decide) ?_
            exact s_zret1 F (by decide) dX3_findPlace_162
        · refine s_goto F 163 dX3_findPlace_126 (by decide) ?_
          refine s_iincv F dX3_findPlace_163 5 rfl (by decide) (c := 1) (by decide) (fun v_16 => ?_)
          refine s_lv (lv' := [(3, .int v_16), (5, .int v_4), (4, .int v_2), (0, .ref (gad g q)), (1, .int x1), (2, .int x2)]) rfl ?_
          refine s_goto F 77 dX3_findPlace_166 (by decide) ?_
          exact s_sub [3, 4, 5, 0] rfl (ih x1 x2 v_16 h_8)
noncomputable def f_X3_findPlace_10 (q : Nat) (rc : Nat → Int32 → Int32 → AH → Option (Int32 × AH)) : Nat → Int32 → Int32 → Int32 → AH → Option (Int32 × AH)
  | 0, _, _, _, _ => none
  | n + 1, x1, x2, x3, h => if (h q 8) ≤ x3 then (f_X3_findPlace_77 q rc fu x1 x2 0 h) else (bd (f_X3_openHours q x1 x3 h) (fun v_2 h_1 => ck x3 6 (lt ((v_2 &&& ((h_1 (q + 6) (x3 : Int32).toNatClampNeg) ^^^ (-1)))) (fun v_4 => if v_4 = 0 then (lt (x3 + 1) (fun v_5 => (f_X3_findPlace_10 q rc n) x1 x2 v_5 h_1)) else (lt ((v_4 &&& (-v_4))) (fun v_6 => ck x3 6 (ck x3 6 (lt (hset h_1 (q + 6) (x3 : Int32).toNatClampNeg ((h_1 (q + 6) (x3 : Int32).toNatClampNeg) ||| v_6)) (fun h_8 => bd (f_X3_givePlace q x1 x3 v_6 h_8) (fun _ h_9 => some (1, h_9)))))))))))
set_option maxRecDepth 20000 in
set_option maxHeartbeats 4000000 in
theorem t_X3_findPlace_10 {z : MC} {g : GC} {A : Nat → Prop} {lv0 : Nat} (F : Fx z cX3_findPlace 6 RX3 (some .boolean) (lv0 + 1) g A) (hlv0 : 3 ≤ lv0) {q : Nat} (hq : (gL g)[q]? = some (.inl 3)) (rc : Nat → Int32 → Int32 → AH → Option (Int32 × AH)) (hrc : ∀ {q : Nat} (_ : (gL g)[q]? = some (.inl 3)), ∀ (x1 : Int32), ∀ (x2 : Int32), Ct z.2.1 yX3_findPlace cX3_findPlace 6 (some .boolean) lv0 [.ref (gad g q), .int x1, .int x2] g mkI (fun hh => rc q x1 x2 hh)) : ∀ (n : Nat) (x1 : Int32) (x2 : Int32) (x3 : Int32) (h : AH), Snd z 6 g A (QF z g A mkI) 10 [(0, .ref (gad g q)), (1, .int x1), (2, .int x2), (3, .int x3)] [] h (f_X3_findPlace_10 q rc n x1 x2 x3 h) := by
  intro n
  induction n with
  | zero => intros; exact s_none
  | succ n ih =>
    intro x1 x2 x3 h
    unfold f_X3_findPlace_10
    refine s_iload_n F dX3_findPlace_10 rfl 3 rfl ?_
    refine s_aload_n F dX3_findPlace_11 rfl 0 rfl ?_
    refine s_geti F ciX3 8 hq (by decide) rfl rfl m200 dX3_findPlace_12 ?_
    refine s_icmp_ge F 75 dX3_findPlace_15 (by decide) (fun _ => ?_) (fun _ => ?_)
    · refine s_iconst F (v := 0) dX3_findPlace_75 (by decide) ?_
      refine s_istore_n F (lv' := [(3, .int 0), (0, .ref (gad g q)), (1, .int x1), (2, .int x2)]) dX3_findPlace_76 rfl (by decide) rfl ?_
      exact s_sub [1, 2, 3, 0] rfl (t_X3_findPlace_77 F hlv0 hq rc hrc fu x1 x2 0 h)
    · refine s_aload_n F dX3_findPlace_18 rfl 0 rfl ?_
      refine s_iload_n F dX3_findPlace_19 rfl 1 rfl ?_
      refine s_iload_n F dX3_findPlace_20 rfl 3 rfl ?_
      refine s_callVi (f := fun hh => f_X3_openHours q x1 x3 hh) (As := [.int x1, .int x3]) F yv_X3_openHours (ct_X3_openHours z.2.1 g hq x1 x3) (by omega) m734 hq rfl rfl rfl (Nat.le_of_ble_eq_true rfl) dX3_findPlace_21 (fun v_2 h_1 e_v_2 => ?_)
      refine s_aload_n F dX3_findPlace_24 rfl 0 rfl ?_
      have hw_3 := wf_ref F.2.2.2.2.2.2.1 hq 5 6 (.inr (0, 6)) rfl
      refine s_getr F ciX3 5 6 (.inr (0, 6)) hq (by decide) rfl rfl m197 dX3_findPlace_25 ?_
      refine s_iload_n F dX3_findPlace_28 rfl 3 rfl ?_
      refine s_iald F hw_3 dX3_findPlace_29 ?_
      refine s_iconst F (v := (-1)) dX3_findPlace_30 (by decide) ?_
      refine s_ixor F dX3_findPlace_31 ?_
      refine s_iand F dX3_findPlace_32 ?_
      refine s_leti (fun v_4 => ?_)
      refine s_istore F (lv' := [(4, .int v_4), (0, .ref (gad g q)), (1, .int x1), (2, .int x2), (3, .int x3)]) dX3_findPlace_33 (by decide) rfl ?_
      refine s_iload F dX3_findPlace_35 0 rfl ?_
      refine s_if_eq F 69 dX3_findPlace_37 (by decide) (fun _ => ?_) (fun _ => ?_)
      · refine s_iincv F dX3_findPlace_69 4 rfl (by decide) (c := 1) (by decide) (fun v_5 => ?_)
        refine s_lv (lv' := [(3, .int v_5), (4, .int v_4), (0, .ref (gad g q)), (1, .int x1), (2, .int x2)]) rfl ?_
        refine s_goto F 10 dX3_findPlace_72 (by decide) ?_
        exact s_sub [2, 3, 4, 0] rfl (ih x1 x2 v_5 h_1)
      · refine s_iload F dX3_findPlace_40 0 rfl ?_
        refine s_iload F dX3_findPlace_42 0 rfl ?_
        refine s_ineg F dX3_findPlace_44 ?_
        refine s_iand F dX3_findPlace_45 ?_
        refine s_leti (fun v_6 => ?_)
        refine s_istore F (lv' := [(5, .int v_6), (4, .int v_4), (0, .ref (gad g q)), (1, .int x1), (2, .int x2), (3, .int x3)]) dX3_findPlace_46 (by decide) rfl ?_
        refine s_aload_n F dX3_findPlace_48 rfl 2 rfl ?_
        have hw_7 := wf_ref F.2.2.2.2.2.2.1 hq 5 6 (.inr (0, 6)) rfl
        refine s_getr F ciX3 5 6 (.inr (0, 6)) hq (by decide) rfl rfl m197 dX3_findPlace_49 ?_
        refine s_iload_n F dX3_findPlace_52 rfl 5 rfl ?_
        refine s_dup2 F dX3_findPlace_53 rfl rfl ?_
        refine s_iald F hw_7 dX3_findPlace_54 ?_
        refine s_iload F dX3_findPlace_55 0 rfl ?_
        refine s_ior F dX3_findPlace_57 ?_
        refine s_iast F hw_7 dX3_findPlace_58 ?_
        refine s_letH (fun h_8 => ?_)
        refine s_aload_n F dX3_findPlace_59 rfl 2 rfl ?_
        refine s_iload_n F dX3_findPlace_60 rfl 3 rfl ?_
        refine s_iload_n F dX3_findPlace_61 rfl 5 rfl ?_
        refine s_iload F dX3_findPlace_62 0 rfl ?_
        refine s_callVu (f := fun hh => f_X3_givePlace q x1 x3 v_6 hh) (As := [.int x1, .int x3, .int v_6]) F yv_X3_givePlace (ct_X3_givePlace z.2.1 g hq x1 x3 v_6) (by omega) m739 hq rfl rfl rfl (Nat.le_of_ble_eq_true rfl) dX3_findPlace_64 (fun _ h_9 e_v_10 => ?_)
        refine s_iconst F (v := 1) dX3_findPlace_67 (by decide) ?_
        exact s_zret1 F (by decide) dX3_findPlace_68
noncomputable def f_X3_findPlace_b (rc : Nat → Int32 → Int32 → AH → Option (Int32 × AH)) (q : Nat) (x1 : Int32) (x2 : Int32) (h : AH) : Option (Int32 × AH) := if x2 ≤ 6 then (f_X3_findPlace_10 q rc fu x1 x2 0 h) else (some (0, h))
noncomputable def f_X3_findPlace : Nat → Nat → Int32 → Int32 → AH → Option (Int32 × AH)
  | 0, _, _, _, _ => none
  | n + 1, q, x1, x2, h => f_X3_findPlace_b (f_X3_findPlace n) q x1 x2 h
set_option maxRecDepth 20000 in
set_option maxHeartbeats 4000000 in
theorem ct_X3_findPlace (l : Launch) (g : GC) : ∀ (n : Nat) {q : Nat} (hq : (gL g)[q]? = some (.inl 3)) (x1 : Int32) (x2 : Int32), Ct l yX3_findPlace cX3_findPlace 6 (some .boolean) (3 + n) [.ref (gad g q), .int x1, .int x2] g mkI (fun h => f_X3_findPlace n q x1 x2 h) := by
  intro n
  induction n with
  | zero => intros; intro h a ha; cases ha
  | succ n ih =>
    intros
    rename_i q hq x1 x2
    refine Ct.of (by decide +kernel) (Nat.le_of_ble_eq_true rfl) (fun z A h hzl F => ?_)
    subst hzl
    have hlv0 : 3 ≤ 3 + n := Nat.le_add_right _ _
    have hrc := @ih
    show Snd z 6 g A (QF z g A mkI) 0 [(0, .ref (gad g q)), (1, .int x1), (2, .int x2)] [] h (f_X3_findPlace_b (f_X3_findPlace n) q x1 x2 h)
    generalize f_X3_findPlace n = rc at hrc ⊢
    unfold f_X3_findPlace_b
    refine s_iload_n F dX3_findPlace_0 rfl 2 rfl ?_
    refine s_bipush F (v := 6) dX3_findPlace_1 (by decide) ?_
    refine s_icmp_le F 8 dX3_findPlace_3 (by decide) (fun _ => ?_) (fun _ => ?_)
    · refine s_iconst F (v := 0) dX3_findPlace_8 (by decide) ?_
      refine s_istore_n F (lv' := [(3, .int 0), (0, .ref (gad g q)), (1, .int x1), (2, .int x2)]) dX3_findPlace_9 rfl (by decide) rfl ?_
      exact s_sub [1, 2, 3, 0] rfl (t_X3_findPlace_10 F hlv0 hq rc hrc fu x1 x2 0 h)
    · refine s_iconst F (v := 0) dX3_findPlace_6 (by decide) ?_
      exact s_zret1 F (by decide) dX3_findPlace_7
theorem dX3_placedFrom_0 : decode cX3_placedFrom 0 = .ok (.aload_n 0, 1) := by decide +kernel
theorem dX3_placedFrom_1 : decode cX3_placedFrom 1 = .ok (.getfield 24, 3) := by decide +kernel
theorem dX3_placedFrom_4 : decode cX3_placedFrom 4 = .ok (.iconst 0, 1) := by decide +kernel
theorem dX3_placedFrom_5 : decode cX3_placedFrom 5 = .ok (.aload_n 0, 1) := by decide +kernel
theorem dX3_placedFrom_6 : decode cX3_placedFrom 6 = .ok (.getfield 27, 3) := by decide +kernel
theorem dX3_placedFrom_9 : decode cX3_placedFrom 9 = .ok (.iconst 0, 1) := by decide +kernel
theorem dX3_placedFrom_10 : decode cX3_placedFrom 10 = .ok (.bipush 6, 2) := by decide +kernel
theorem dX3_placedFrom_12 : decode cX3_placedFrom 12 = .ok (.invokestatic 65, 3) := by decide +kernel
theorem dX3_placedFrom_15 : decode cX3_placedFrom 15 = .ok (.aload_n 0, 1) := by decide +kernel
theorem dX3_placedFrom_16 : decode cX3_placedFrom 16 = .ok (.getfield 33, 3) := by decide +kernel
theorem dX3_placedFrom_19 : decode cX3_placedFrom 19 = .ok (.iconst 0, 1) := by decide +kernel
theorem dX3_placedFrom_20 : decode cX3_placedFrom 20 = .ok (.invokestatic 115, 3) := by decide +kernel
theorem dX3_placedFrom_23 : decode cX3_placedFrom 23 = .ok (.iconst 0, 1) := by decide +kernel
theorem dX3_placedFrom_24 : decode cX3_placedFrom 24 = .ok (.istore_n 2, 1) := by decide +kernel
theorem dX3_placedFrom_25 : decode cX3_placedFrom 25 = .ok (.iload_n 1, 1) := by decide +kernel
theorem dX3_placedFrom_26 : decode cX3_placedFrom 26 = .ok (.istore_n 3, 1) := by decide +kernel
theorem dX3_placedFrom_27 : decode cX3_placedFrom 27 = .ok (.iload_n 3, 1) := by decide +kernel
theorem dX3_placedFrom_28 : decode cX3_placedFrom 28 = .ok (.aload_n 0, 1) := by decide +kernel
theorem dX3_placedFrom_29 : decode cX3_placedFrom 29 = .ok (.getfield 83, 3) := by decide +kernel
theorem dX3_placedFrom_32 : decode cX3_placedFrom 32 = .ok (.if_icmp .ge 33, 3) := by decide +kernel
theorem dX3_placedFrom_35 : decode cX3_placedFrom 35 = .ok (.aload_n 0, 1) := by decide +kernel
theorem dX3_placedFrom_36 : decode cX3_placedFrom 36 = .ok (.iconst 1, 1) := by decide +kernel
theorem dX3_placedFrom_37 : decode cX3_placedFrom 37 = .ok (.iload_n 3, 1) := by decide +kernel
theorem dX3_placedFrom_38 : decode cX3_placedFrom 38 = .ok (.ishl, 1) := by decide +kernel
theorem dX3_placedFrom_39 : decode cX3_placedFrom 39 = .ok (.putfield 121, 3) := by decide +kernel
theorem dX3_placedFrom_42 : decode cX3_placedFrom 42 = .ok (.iload_n 2, 1) := by decide +kernel
theorem dX3_placedFrom_43 : decode cX3_placedFrom 43 = .ok (.aload_n 0, 1) := by decide +kernel
theorem dX3_placedFrom_44 : decode cX3_placedFrom 44 = .ok (.iload_n 3, 1) := by decide +kernel
theorem dX3_placedFrom_45 : decode cX3_placedFrom 45 = .ok (.iconst 0, 1) := by decide +kernel
theorem dX3_placedFrom_46 : decode cX3_placedFrom 46 = .ok (.invokevirtual 124, 3) := by decide +kernel
theorem dX3_placedFrom_49 : decode cX3_placedFrom 49 = .ok (.ifCond .eq 7, 3) := by decide +kernel
theorem dX3_placedFrom_52 : decode cX3_placedFrom 52 = .ok (.iconst 1, 1) := by decide +kernel
theorem dX3_placedFrom_53 : decode cX3_placedFrom 53 = .ok (.goto 4, 3) := by decide +kernel
theorem dX3_placedFrom_56 : decode cX3_placedFrom 56 = .ok (.iconst 0, 1) := by decide +kernel
theorem dX3_placedFrom_57 : decode cX3_placedFrom 57 = .ok (.iadd, 1) := by decide +kernel
theorem dX3_placedFrom_58 : decode cX3_placedFrom 58 = .ok (.istore_n 2, 1) := by decide +kernel
theorem dX3_placedFrom_59 : decode cX3_placedFrom 59 = .ok (.iinc 3 1, 3) := by decide +kernel
theorem dX3_placedFrom_62 : decode cX3_placedFrom 62 = .ok (.goto (-35), 3) := by decide +kernel
theorem dX3_placedFrom_65 : decode cX3_placedFrom 65 = .ok (.iload_n 2, 1) := by decide +kernel
theorem dX3_placedFrom_66 : decode cX3_placedFrom 66 = .ok (.ireturn, 1) := by decide +kernel
theorem yv_X3_placedFrom : YV yX3_placedFrom cX3_placedFrom 4 (some .int) 1 := ⟨m726, ms15, m7, m727, ⟨by decide +kernel, by decide +kernel, by decide +kernel⟩, by decide⟩
noncomputable def f_X3_placedFrom_27 (q : Nat) : Nat → Int32 → Int32 → AH → Option (Int32 × AH)
  | 0, _, _, _ => none
  | n + 1, x2, x3, h => if (h q 9) ≤ x3 then (some (x2, h)) else (lt (hset h q 10 (1 <<< (x3 &&& 31))) (fun h_1 => bd (f_X3_findPlace 10 q x3 0 h_1) (fun v_3 h_2 => if v_3 = 0 then (lt ((x2 + 0)) (fun v_4 => lt (x3 + 1) (fun v_5 => (f_X3_placedFrom_27 q n) v_4 v_5 h_2))) else (lt ((x2 + 1)) (fun v_6 => lt (x3 + 1) (fun v_7 => (f_X3_placedFrom_27 q n) v_6 v_7 h_2))))))
set_option maxRecDepth 20000 in
set_option maxHeartbeats 4000000 in
theorem t_X3_placedFrom_27 {z : MC} {g : GC} {A : Nat → Prop} (F : Fx z cX3_placedFrom 4 RX3 (some .int) 14 g A) {q : Nat} (hq : (gL g)[q]? = some (.inl 3)) : ∀ (n : Nat) (x2 : Int32) (x3 : Int32) (h : AH), Snd z 4 g A (QF z g A mkI) 27 [(0, .ref (gad g q)), (2, .int x2), (3, .int x3)] [] h (f_X3_placedFrom_27 q n x2 x3 h) := by
  intro n
  induction n with
  | zero => intros; exact s_none
  | succ n ih =>
    intro x2 x3 h
    unfold f_X3_placedFrom_27
    refine s_iload_n F dX3_placedFrom_27 rfl 2 rfl ?_
    refine s_aload_n F dX3_placedFrom_28 rfl 0 rfl ?_
    refine s_geti F ciX3 9 hq (by decide) rfl rfl m201 dX3_placedFrom_29 ?_
    refine s_icmp_ge F 65 dX3_placedFrom_32 (by decide) (fun _ => ?_) (fun _ => ?_)
    · refine s_iload_n F dX3_placedFrom_65 rfl 1 rfl ?_
      exact s_iret F dX3_placedFrom_66
    · refine s_aload_n F dX3_placedFrom_35 rfl 0 rfl ?_
      refine s_iconst F (v := 1) dX3_placedFrom_36 (by decide) ?_
      refine s_iload_n F dX3_placedFrom_37 rfl 2 rfl ?_
      refine s_ishl F dX3_placedFrom_38 ?_
      refine s_put F ciX3 (k := 10) hq (by decide) rfl rfl rfl rfl m202 dX3_placedFrom_39 ?_
      refine s_letH (fun h_1 => ?_)
      refine s_iload_n F dX3_placedFrom_42 rfl 1 rfl ?_
      refine s_aload_n F dX3_placedFrom_43 rfl 0 rfl ?_
      refine s_iload_n F dX3_placedFrom_44 rfl 2 rfl ?_
      refine s_iconst F (v := 0) dX3_placedFrom_45 (by decide) ?_
      refine s_callVi (f := fun hh => f_X3_findPlace 10 q x3 0 hh) (As := [.int x3, .int 0]) F yv_X3_findPlace (ct_X3_findPlace z.2.1 g 10 hq x3 0) (by decide) m730 hq rfl rfl rfl (Nat.le_of_ble_eq_true rfl) dX3_placedFrom_46 (fun v_3 h_2 e_v_3 => ?_)
      refine s_if_eq F 56 dX3_placedFrom_49 (by decide) (fun _ => ?_) (fun _ => ?_)
      · refine s_iconst F (v := 0) dX3_placedFrom_56 (by decide) ?_
        refine s_iadd F dX3_placedFrom_57 ?_
        refine s_leti (fun v_4 => ?_)
        refine s_istore_n F (lv' := [(2, .int v_4), (0, .ref (gad g q)), (3, .int x3)]) dX3_placedFrom_58 rfl (by decide) rfl ?_
        refine s_iincv F dX3_placedFrom_59 2 rfl (by decide) (c := 1) (by decide) (fun v_5 => ?_)
        refine s_lv (lv' := [(3, .int v_5), (2, .int v_4), (0, .ref (gad g q))]) rfl ?_
        refine s_goto F 27 dX3_placedFrom_62 (by decide) ?_
        exact s_sub [2, 1, 0] rfl (ih v_4 v_5 h_2)
      · refine s_iconst F (v := 1) dX3_placedFrom_52 (by decide) ?_
        refine s_goto F 57 dX3_placedFrom_53 (by decide) ?_
        refine s_iadd F dX3_placedFrom_57 ?_
        refine s_leti (fun v_6 => ?_)
        refine s_istore_n F (lv' := [(2, .int v_6), (0, .ref (gad g q)), (3, .int x3)]) dX3_placedFrom_58 rfl (by decide) rfl ?_
        refine s_iincv F dX3_placedFrom_59 2 rfl (by decide) (c := 1) (by decide) (fun v_7 => ?_)
        refine s_lv (lv' := [(3, .int v_7), (2, .int v_6), (0, .ref (gad g q))]) rfl ?_
        refine s_goto F 27 dX3_placedFrom_62 (by decide) ?_
        exact s_sub [2, 1, 0] rfl (ih v_6 v_7 h_2)
noncomputable def f_X3_placedFrom (q : Nat) (x1 : Int32) (h : AH) : Option (Int32 × AH) := bh (cpy h (q + 5) 6 0 (q + 6) 6 0 6) (fun h_3 => bd (f_J7_fill_53178 (q + 8) 6 0 h_3) (fun _ h_5 => f_X3_placedFrom_27 q fu 0 x1 h_5))
set_option maxRecDepth 20000 in
set_option maxHeartbeats 4000000 in
theorem ct_X3_placedFrom (l : Launch) (g : GC) {q : Nat} (hq : (gL g)[q]? = some (.inl 3)) (x1 : Int32) : Ct l yX3_placedFrom cX3_placedFrom 4 (some .int) 14 [.ref (gad g q), .int x1] g mkI (fun h => f_X3_placedFrom q x1 h) := by
  refine Ct.of (by decide +kernel) (Nat.le_of_ble_eq_true rfl) (fun z A h _ F => ?_)
  show Snd z 4 g A (QF z g A mkI) 0 [(0, .ref (gad g q)), (1, .int x1)] [] h (f_X3_placedFrom q x1 h)
  unfold f_X3_placedFrom
  refine s_aload_n F dX3_placedFrom_0 rfl 0 rfl ?_
  have hw_1 := wf_ref F.2.2.2.2.2.2.1 hq 4 5 (.inr (0, 6)) rfl
  refine s_getr F ciX3 4 5 (.inr (0, 6)) hq (by decide) rfl rfl m196 dX3_placedFrom_1 ?_
  refine s_iconst F (v := 0) dX3_placedFrom_4 (by decide) ?_
  refine s_aload_n F dX3_placedFrom_5 rfl 0 rfl ?_
  have hw_2 := wf_ref F.2.2.2.2.2.2.1 hq 5 6 (.inr (0, 6)) rfl
  refine s_getr F ciX3 5 6 (.inr (0, 6)) hq (by decide) rfl rfl m197 dX3_placedFrom_6 ?_
  refine s_iconst F (v := 0) dX3_placedFrom_9 (by decide) ?_
  refine s_bipush F (v := 6) dX3_placedFrom_10 (by decide) ?_
  refine s_cpy F (by decide) hw_1 hw_2 m728 m327 m326 m10 (Nat.le_of_ble_eq_true rfl) dX3_placedFrom_12 (fun h_3 => ?_)
  refine s_aload_n F dX3_placedFrom_15 rfl 0 rfl ?_
  have hw_4 := wf_ref F.2.2.2.2.2.2.1 hq 7 8 (.inr (0, 6)) rfl
  refine s_getr F ciX3 7 8 (.inr (0, 6)) hq (by decide) rfl rfl m199 dX3_placedFrom_16 ?_
  refine s_iconst F (v := 0) dX3_placedFrom_19 (by decide) ?_
  refine s_callSu (f := fun hh => f_J7_fill_53178 (q + 8) 6 0 hh) (As := [.ref (gad g (q + 8)), .int 0]) F ys_J7_fill_53178 (ct_J7_fill_53178 z.2.1 g hw_4 0) (by decide) m729 rfl rfl (Nat.le_of_ble_eq_true rfl) dX3_placedFrom_20 (fun _ h_5 e_v_6 => ?_)
  refine s_iconst F (v := 0) dX3_placedFrom_23 (by decide) ?_
  refine s_istore_n F (lv' := [(2, .int 0), (0, .ref (gad g q)), (1, .int x1)]) dX3_placedFrom_24 rfl (by decide) rfl ?_
  refine s_iload_n F dX3_placedFrom_25 rfl 2 rfl ?_
  refine s_istore_n F (lv' := [(3, .int x1), (2, .int 0), (0, .ref (gad g q)), (1, .int x1)]) dX3_placedFrom_26 rfl (by decide) rfl ?_
  exact s_sub [2, 1, 0] rfl (t_X3_placedFrom_27 F hq fu 0 x1 h_5)
theorem dX3_roomyHours_0 : decode cX3_roomyHours 0 = .ok (.iconst 0, 1) := by decide +kernel
theorem dX3_roomyHours_1 : decode cX3_roomyHours 1 = .ok (.istore 5, 2) := by decide +kernel
theorem dX3_roomyHours_3 : decode cX3_roomyHours 3 = .ok (.iload_n 3, 1) := by decide +kernel
theorem dX3_roomyHours_4 : decode cX3_roomyHours 4 = .ok (.istore 6, 2) := by decide +kernel
theorem dX3_roomyHours_6 : decode cX3_roomyHours 6 = .ok (.iload 6, 2) := by decide +kernel
theorem dX3_roomyHours_8 : decode cX3_roomyHours 8 = .ok (.iload 4, 2) := by decide +kernel
theorem dX3_roomyHours_10 : decode cX3_roomyHours 10 = .ok (.if_icmp .gt 39, 3) := by decide +kernel
theorem dX3_roomyHours_13 : decode cX3_roomyHours 13 = .ok (.iload 5, 2) := by decide +kernel
theorem dX3_roomyHours_15 : decode cX3_roomyHours 15 = .ok (.iload 6, 2) := by decide +kernel
theorem dX3_roomyHours_17 : decode cX3_roomyHours 17 = .ok (.aload_n 0, 1) := by decide +kernel
theorem dX3_roomyHours_18 : decode cX3_roomyHours 18 = .ok (.iload_n 1, 1) := by decide +kernel
theorem dX3_roomyHours_19 : decode cX3_roomyHours 19 = .ok (.iload_n 2, 1) := by decide +kernel
theorem dX3_roomyHours_20 : decode cX3_roomyHours 20 = .ok (.aload_n 0, 1) := by decide +kernel
theorem dX3_roomyHours_21 : decode cX3_roomyHours 21 = .ok (.getfield 101, 3) := by decide +kernel
theorem dX3_roomyHours_24 : decode cX3_roomyHours 24 = .ok (.iload 6, 2) := by decide +kernel
theorem dX3_roomyHours_26 : decode cX3_roomyHours 26 = .ok (.iaload, 1) := by decide +kernel
theorem dX3_roomyHours_27 : decode cX3_roomyHours 27 = .ok (.invokevirtual 104, 3) := by decide +kernel
theorem dX3_roomyHours_30 : decode cX3_roomyHours 30 = .ok (.ifCond .eq 7, 3) := by decide +kernel
theorem dX3_roomyHours_33 : decode cX3_roomyHours 33 = .ok (.iconst 1, 1) := by decide +kernel
theorem dX3_roomyHours_34 : decode cX3_roomyHours 34 = .ok (.goto 4, 3) := by decide +kernel
theorem dX3_roomyHours_37 : decode cX3_roomyHours 37 = .ok (.iconst 0, 1) := by decide +kernel
theorem dX3_roomyHours_38 : decode cX3_roomyHours 38 = .ok (.invokestatic 108, 3) := by decide +kernel
theorem dX3_roomyHours_41 : decode cX3_roomyHours 41 = .ok (.istore 5, 2) := by decide +kernel
theorem dX3_roomyHours_43 : decode cX3_roomyHours 43 = .ok (.iinc 6 1, 3) := by decide +kernel
theorem dX3_roomyHours_46 : decode cX3_roomyHours 46 = .ok (.goto (-40), 3) := by decide +kernel
theorem dX3_roomyHours_49 : decode cX3_roomyHours 49 = .ok (.iload 5, 2) := by decide +kernel
theorem dX3_roomyHours_51 : decode cX3_roomyHours 51 = .ok (.ireturn, 1) := by decide +kernel
theorem ys_X3_roomyHours : YS yX3_roomyHours cX3_roomyHours 7 (some .int) 5 := ⟨m720, m7, m721, ⟨by decide +kernel, by decide +kernel, by decide +kernel⟩, by decide⟩
noncomputable def f_X3_roomyHours_6 (r0 : Nat) : Nat → Int32 → Int32 → Int32 → Int32 → Int32 → AH → Option (Int32 × AH)
  | 0, _, _, _, _, _, _ => none
  | n + 1, x1, x2, x4, x5, x6, h => if x4 < x6 then (some (x5, h)) else (ck x6 12 (bd (f_X2_hasRoom r0 x1 x2 (h (r0 + 1) (x6 : Int32).toNatClampNeg) h) (fun v_3 h_2 => if v_3 = 0 then (bd (f_X7_withBit x5 x6 0 h_2) (fun v_5 h_4 => lt (x6 + 1) (fun v_6 => (f_X3_roomyHours_6 r0 n) x1 x2 x4 v_5 v_6 h_4))) else (bd (f_X7_withBit x5 x6 1 h_2) (fun v_8 h_7 => lt (x6 + 1) (fun v_9 => (f_X3_roomyHours_6 r0 n) x1 x2 x4 v_8 v_9 h_7))))))
set_option maxRecDepth 20000 in
set_option maxHeartbeats 4000000 in
theorem t_X3_roomyHours_6 {z : MC} {g : GC} {A : Nat → Prop} (F : Fx z cX3_roomyHours 7 RX3 (some .int) 2 g A) {r0 : Nat} (hr0 : (gL g)[r0]? = some (.inl 2)) : ∀ (n : Nat) (x1 : Int32) (x2 : Int32) (x4 : Int32) (x5 : Int32) (x6 : Int32) (h : AH), Snd z 7 g A (QF z g A mkI) 6 [(0, .ref (gad g r0)), (1, .int x1), (2, .int x2), (4, .int x4), (5, .int x5), (6, .int x6)] [] h (f_X3_roomyHours_6 r0 n x1 x2 x4 x5 x6 h) := by
  intro n
  induction n with
  | zero => intros; exact s_none
  | succ n ih =>
    intro x1 x2 x4 x5 x6 h
    unfold f_X3_roomyHours_6
    refine s_iload F dX3_roomyHours_6 5 rfl ?_
    refine s_iload F dX3_roomyHours_8 3 rfl ?_
    refine s_icmp_gt F 49 dX3_roomyHours_10 (by decide) (fun _ => ?_) (fun _ => ?_)
    · refine s_iload F dX3_roomyHours_49 4 rfl ?_
      exact s_iret F dX3_roomyHours_51
    · refine s_iload F dX3_roomyHours_13 4 rfl ?_
      refine s_iload F dX3_roomyHours_15 5 rfl ?_
      refine s_aload_n F dX3_roomyHours_17 rfl 0 rfl ?_
      refine s_iload_n F dX3_roomyHours_18 rfl 1 rfl ?_
      refine s_iload_n F dX3_roomyHours_19 rfl 2 rfl ?_
      refine s_aload_n F dX3_roomyHours_20 rfl 0 rfl ?_
      have hw_1 := wf_ref F.2.2.2.2.2.2.1 hr0 7 1 (.inr (0, 12)) rfl
      refine s_getrN F ciX2 7 1 (.inr (0, 12)) hr0 (by decide) rfl rfl (List.mem_of_getElem? (i := 16) rfl) dX3_roomyHours_21 ?_
      refine s_iload F dX3_roomyHours_24 5 rfl ?_
      refine s_iald F hw_1 dX3_roomyHours_26 ?_
      refine s_callVi (f := fun hh => f_X2_hasRoom r0 x1 x2 (h (r0 + 1) (x6 : Int32).toNatClampNeg) hh) (As := [.int x1, .int x2, .int (h (r0 + 1) (x6 : Int32).toNatClampNeg)]) F yv_X2_hasRoom (ct_X2_hasRoom z.2.1 g hr0 x1 x2 (h (r0 + 1) (x6 : Int32).toNatClampNeg)) (by decide) m722 hr0 rfl rfl rfl (Nat.le_of_ble_eq_true rfl) dX3_roomyHours_27 (fun v_3 h_2 e_v_3 => ?_)
      refine s_if_eq F 37 dX3_roomyHours_30 (by decide) (fun _ => ?_) (fun _ => ?_)
      · refine s_iconst F (v := 0) dX3_roomyHours_37 (by decide) ?_
        refine s_callSNi (f := fun hh => f_X7_withBit x5 x6 0 hh) (As := [.int x5, .int x6, .int 0]) F ys_X7_withBit (ct_X7_withBit z.2.1 g x5 x6 0) (by decide) (List.mem_of_getElem? (i := 3) rfl) rfl rfl (Nat.le_of_ble_eq_true rfl) dX3_roomyHours_38 (fun v_5 h_4 e_v_5 => ?_)
        refine s_istore F (lv' := [(5, .int v_5), (0, .ref (gad g r0)), (1, .int x1), (2, .int x2), (4, .int x4), (6, .int x6)]) dX3_roomyHours_41 (by decide) rfl ?_
        refine s_iincv F dX3_roomyHours_43 5 rfl (by decide) (c := 1) (by decide) (fun v_6 => ?_)
        refine s_lv (lv' := [(6, .int v_6), (5, .int v_5), (0, .ref (gad g r0)), (1, .int x1), (2, .int x2), (4, .int x4)]) rfl ?_
        refine s_goto F 6 dX3_roomyHours_46 (by decide) ?_
        exact s_sub [2, 3, 4, 5, 1, 0] rfl (ih x1 x2 x4 v_5 v_6 h_4)
      · refine s_iconst F (v := 1) dX3_roomyHours_33 (by decide) ?_
        refine s_goto F 38 dX3_roomyHours_34 (by decide) ?_
        refine s_callSNi (f := fun hh => f_X7_withBit x5 x6 1 hh) (As := [.int x5, .int x6, .int 1]) F ys_X7_withBit (ct_X7_withBit z.2.1 g x5 x6 1) (by decide) (List.mem_of_getElem? (i := 3) rfl) rfl rfl (Nat.le_of_ble_eq_true rfl) dX3_roomyHours_38 (fun v_8 h_7 e_v_8 => ?_)
        refine s_istore F (lv' := [(5, .int v_8), (0, .ref (gad g r0)), (1, .int x1), (2, .int x2), (4, .int x4), (6, .int x6)]) dX3_roomyHours_41 (by decide) rfl ?_
        refine s_iincv F dX3_roomyHours_43 5 rfl (by decide) (c := 1) (by decide) (fun v_9 => ?_)
        refine s_lv (lv' := [(6, .int v_9), (5, .int v_8), (0, .ref (gad g r0)), (1, .int x1), (2, .int x2), (4, .int x4)]) rfl ?_
        refine s_goto F 6 dX3_roomyHours_46 (by decide) ?_
        exact s_sub [2, 3, 4, 5, 1, 0] rfl (ih x1 x2 x4 v_8 v_9 h_7)
noncomputable def f_X3_roomyHours (r0 : Nat) (x1 : Int32) (x2 : Int32) (x3 : Int32) (x4 : Int32) (h : AH) : Option (Int32 × AH) := f_X3_roomyHours_6 r0 fu x1 x2 x4 0 x3 h
set_option maxRecDepth 20000 in
set_option maxHeartbeats 4000000 in
theorem ct_X3_roomyHours (l : Launch) (g : GC) {r0 : Nat} (hr0 : (gL g)[r0]? = some (.inl 2)) (x1 : Int32) (x2 : Int32) (x3 : Int32) (x4 : Int32) : Ct l yX3_roomyHours cX3_roomyHours 7 (some .int) 2 [.ref (gad g r0), .int x1, .int x2, .int x3, .int x4] g mkI (fun h => f_X3_roomyHours r0 x1 x2 x3 x4 h) := by
  refine Ct.of (by decide +kernel) (Nat.le_of_ble_eq_true rfl) (fun z A h _ F => ?_)
  show Snd z 7 g A (QF z g A mkI) 0 [(0, .ref (gad g r0)), (1, .int x1), (2, .int x2), (3, .int x3), (4, .int x4)] [] h (f_X3_roomyHours r0 x1 x2 x3 x4 h)
  unfold f_X3_roomyHours
  refine s_iconst F (v := 0) dX3_roomyHours_0 (by decide) ?_
  refine s_istore F (lv' := [(5, .int 0), (0, .ref (gad g r0)), (1, .int x1), (2, .int x2), (3, .int x3), (4, .int x4)]) dX3_roomyHours_1 (by decide) rfl ?_
  refine s_iload_n F dX3_roomyHours_3 rfl 4 rfl ?_
  refine s_istore F (lv' := [(6, .int x3), (5, .int 0), (0, .ref (gad g r0)), (1, .int x1), (2, .int x2), (3, .int x3), (4, .int x4)]) dX3_roomyHours_4 (by decide) rfl ?_
  exact s_sub [2, 3, 4, 6, 1, 0] rfl (t_X3_roomyHours_6 F hr0 fu x1 x2 x4 0 x3 h)
theorem dX3_prepare_0 : decode cX3_prepare 0 = .ok (.aload_n 0, 1) := by decide +kernel
theorem dX3_prepare_1 : decode cX3_prepare 1 = .ok (.aload_n 1, 1) := by decide +kernel
theorem dX3_prepare_2 : decode cX3_prepare 2 = .ok (.getfield 75, 3) := by decide +kernel
theorem dX3_prepare_5 : decode cX3_prepare 5 = .ok (.putfield 79, 3) := by decide +kernel
theorem dX3_prepare_8 : decode cX3_prepare 8 = .ok (.aload_n 0, 1) := by decide +kernel
theorem dX3_prepare_9 : decode cX3_prepare 9 = .ok (.aload_n 1, 1) := by decide +kernel
theorem dX3_prepare_10 : decode cX3_prepare 10 = .ok (.getfield 80, 3) := by decide +kernel
theorem dX3_prepare_13 : decode cX3_prepare 13 = .ok (.putfield 83, 3) := by decide +kernel
theorem dX3_prepare_16 : decode cX3_prepare 16 = .ok (.iconst 0, 1) := by decide +kernel
theorem dX3_prepare_17 : decode cX3_prepare 17 = .ok (.istore 5, 2) := by decide +kernel
theorem dX3_prepare_19 : decode cX3_prepare 19 = .ok (.iload 5, 2) := by decide +kernel
theorem dX3_prepare_21 : decode cX3_prepare 21 = .ok (.aload_n 0, 1) := by decide +kernel
theorem dX3_prepare_22 : decode cX3_prepare 22 = .ok (.getfield 79, 3) := by decide +kernel
theorem dX3_prepare_25 : decode cX3_prepare 25 = .ok (.if_icmp .ge 31, 3) := by decide +kernel
theorem dX3_prepare_28 : decode cX3_prepare 28 = .ok (.aload_n 0, 1) := by decide +kernel
theorem dX3_prepare_29 : decode cX3_prepare 29 = .ok (.getfield 18, 3) := by decide +kernel
theorem dX3_prepare_32 : decode cX3_prepare 32 = .ok (.iload 5, 2) := by decide +kernel
theorem dX3_prepare_34 : decode cX3_prepare 34 = .ok (.aload_n 1, 1) := by decide +kernel
theorem dX3_prepare_35 : decode cX3_prepare 35 = .ok (.iload_n 2, 1) := by decide +kernel
theorem dX3_prepare_36 : decode cX3_prepare 36 = .ok (.iload 5, 2) := by decide +kernel
theorem dX3_prepare_38 : decode cX3_prepare 38 = .ok (.invokevirtual 84, 3) := by decide +kernel
theorem dX3_prepare_41 : decode cX3_prepare 41 = .ok (.iastore, 1) := by decide +kernel
theorem dX3_prepare_42 : decode cX3_prepare 42 = .ok (.aload_n 0, 1) := by decide +kernel
theorem dX3_prepare_43 : decode cX3_prepare 43 = .ok (.getfield 24, 3) := by decide +kernel
theorem dX3_prepare_46 : decode cX3_prepare 46 = .ok (.iload 5, 2) := by decide +kernel
theorem dX3_prepare_48 : decode cX3_prepare 48 = .ok (.iconst 0, 1) := by decide +kernel
theorem dX3_prepare_49 : decode cX3_prepare 49 = .ok (.iastore, 1) := by decide +kernel
theorem dX3_prepare_50 : decode cX3_prepare 50 = .ok (.iinc 5 1, 3) := by decide +kernel
theorem dX3_prepare_53 : decode cX3_prepare 53 = .ok (.goto (-34), 3) := by decide +kernel
theorem dX3_prepare_56 : decode cX3_prepare 56 = .ok (.iconst 0, 1) := by decide +kernel
theorem dX3_prepare_57 : decode cX3_prepare 57 = .ok (.istore 5, 2) := by decide +kernel
theorem dX3_prepare_59 : decode cX3_prepare 59 = .ok (.iload 5, 2) := by decide +kernel
theorem dX3_prepare_61 : decode cX3_prepare 61 = .ok (.aload_n 0, 1) := by decide +kernel
theorem dX3_prepare_62 : decode cX3_prepare 62 = .ok (.getfield 83, 3) := by decide +kernel
theorem dX3_prepare_65 : decode cX3_prepare 65 = .ok (.if_icmp .ge 120, 3) := by decide +kernel
theorem dX3_prepare_68 : decode cX3_prepare 68 = .ok (.aload_n 0, 1) := by decide +kernel
theorem dX3_prepare_69 : decode cX3_prepare 69 = .ok (.getfield 15, 3) := by decide +kernel
theorem dX3_prepare_72 : decode cX3_prepare 72 = .ok (.iload 5, 2) := by decide +kernel
theorem dX3_prepare_74 : decode cX3_prepare 74 = .ok (.aload_n 1, 1) := by decide +kernel
theorem dX3_prepare_75 : decode cX3_prepare 75 = .ok (.iload 5, 2) := by decide +kernel
theorem dX3_prepare_77 : decode cX3_prepare 77 = .ok (.invokevirtual 88, 3) := by decide +kernel
theorem dX3_prepare_80 : decode cX3_prepare 80 = .ok (.iastore, 1) := by decide +kernel
theorem dX3_prepare_81 : decode cX3_prepare 81 = .ok (.aload_n 1, 1) := by decide +kernel
theorem dX3_prepare_82 : decode cX3_prepare 82 = .ok (.iload 5, 2) := by decide +kernel
theorem dX3_prepare_84 : decode cX3_prepare 84 = .ok (.invokevirtual 90, 3) := by decide +kernel
theorem dX3_prepare_87 : decode cX3_prepare 87 = .ok (.ifCond .ne 13, 3) := by decide +kernel
theorem dX3_prepare_90 : decode cX3_prepare 90 = .ok (.aload_n 1, 1) := by decide +kernel
theorem dX3_prepare_91 : decode cX3_prepare 91 = .ok (.iload 5, 2) := by decide +kernel
theorem dX3_prepare_93 : decode cX3_prepare 93 = .ok (.invokevirtual 40, 3) := by decide +kernel
theorem dX3_prepare_96 : decode cX3_prepare 96 = .ok (.iload_n 2, 1) := by decide +kernel
theorem dX3_prepare_97 : decode cX3_prepare 97 = .ok (.if_icmp .eq 7, 3) := by decide +kernel
theorem dX3_prepare_100 : decode cX3_prepare 100 = .ok (.iconst 1, 1) := by decide +kernel
theorem dX3_prepare_101 : decode cX3_prepare 101 = .ok (.goto 4, 3) := by decide +kernel
theorem dX3_prepare_104 : decode cX3_prepare 104 = .ok (.iconst 0, 1) := by decide +kernel
theorem dX3_prepare_105 : decode cX3_prepare 105 = .ok (.istore 6, 2) := by decide +kernel
theorem dX3_prepare_107 : decode cX3_prepare 107 = .ok (.iconst 0, 1) := by decide +kernel
theorem dX3_prepare_108 : decode cX3_prepare 108 = .ok (.istore 7, 2) := by decide +kernel
theorem dX3_prepare_110 : decode cX3_prepare 110 = .ok (.iload 7, 2) := by decide +kernel
theorem dX3_prepare_112 : decode cX3_prepare 112 = .ok (.aload_n 0, 1) := by decide +kernel
theorem dX3_prepare_113 : decode cX3_prepare 113 = .ok (.getfield 79, 3) := by decide +kernel
theorem dX3_prepare_116 : decode cX3_prepare 116 = .ok (.if_icmp .ge 63, 3) := by decide +kernel
theorem dX3_prepare_119 : decode cX3_prepare 119 = .ok (.iload 6, 2) := by decide +kernel
theorem dX3_prepare_121 : decode cX3_prepare 121 = .ok (.ifCond .ne 12, 3) := by decide +kernel
theorem dX3_prepare_124 : decode cX3_prepare 124 = .ok (.aload_n 1, 1) := by decide +kernel
theorem dX3_prepare_125 : decode cX3_prepare 125 = .ok (.iload 7, 2) := by decide +kernel
theorem dX3_prepare_127 : decode cX3_prepare 127 = .ok (.invokevirtual 94, 3) := by decide +kernel
theorem dX3_prepare_130 : decode cX3_prepare 130 = .ok (.ifCond .eq 7, 3) := by decide +kernel
theorem dX3_prepare_133 : decode cX3_prepare 133 = .ok (.iconst 1, 1) := by decide +kernel
theorem dX3_prepare_134 : decode cX3_prepare 134 = .ok (.goto 4, 3) := by decide +kernel
theorem dX3_prepare_137 : decode cX3_prepare 137 = .ok (.iconst 0, 1) := by decide +kernel
theorem dX3_prepare_138 : decode cX3_prepare 138 = .ok (.istore 8, 2) := by decide +kernel
theorem dX3_prepare_140 : decode cX3_prepare 140 = .ok (.aload_n 0, 1) := by decide +kernel
theorem dX3_prepare_141 : decode cX3_prepare 141 = .ok (.getfield 9, 3) := by decide +kernel
theorem dX3_prepare_144 : decode cX3_prepare 144 = .ok (.iload 5, 2) := by decide +kernel
theorem dX3_prepare_146 : decode cX3_prepare 146 = .ok (.bipush 6, 2) := by decide +kernel
theorem dX3_prepare_148 : decode cX3_prepare 148 = .ok (.imul, 1) := by decide +kernel
theorem dX3_prepare_149 : decode cX3_prepare 149 = .ok (.iload 7, 2) := by decide +kernel
theorem dX3_prepare_151 : decode cX3_prepare 151 = .ok (.iadd, 1) := by decide +kernel
theorem dX3_prepare_152 : decode cX3_prepare 152 = .ok (.iload 8, 2) := by decide +kernel
theorem dX3_prepare_154 : decode cX3_prepare 154 = .ok (.ifCond .eq 7, 3) := by decide +kernel
theorem dX3_prepare_157 : decode cX3_prepare 157 = .ok (.iconst 0, 1) := by decide +kernel
theorem dX3_prepare_158 : decode cX3_prepare 158 = .ok (.goto 14, 3) := by decide +kernel
theorem dX3_prepare_161 : decode cX3_prepare 161 = .ok (.aload_n 1, 1) := by decide +kernel
theorem dX3_prepare_162 : decode cX3_prepare 162 = .ok (.iload 5, 2) := by decide +kernel
theorem dX3_prepare_164 : decode cX3_prepare 164 = .ok (.iload 7, 2) := by decide +kernel
theorem dX3_prepare_166 : decode cX3_prepare 166 = .ok (.iload_n 3, 1) := by decide +kernel
theorem dX3_prepare_167 : decode cX3_prepare 167 = .ok (.iload 4, 2) := by decide +kernel
theorem dX3_prepare_169 : decode cX3_prepare 169 = .ok (.invokestatic 97, 3) := by decide +kernel
theorem dX3_prepare_172 : decode cX3_prepare 172 = .ok (.iastore, 1) := by decide +kernel
theorem dX3_prepare_173 : decode cX3_prepare 173 = .ok (.iinc 7 1, 3) := by decide +kernel
theorem dX3_prepare_176 : decode cX3_prepare 176 = .ok (.goto (-66), 3) := by decide +kernel
theorem dX3_prepare_179 : decode cX3_prepare 179 = .ok (.iinc 5 1, 3) := by decide +kernel
theorem dX3_prepare_182 : decode cX3_prepare 182 = .ok (.goto (-123), 3) := by decide +kernel
theorem dX3_prepare_185 : decode cX3_prepare 185 = .ok (.return_, 1) := by decide +kernel
theorem yv_X3_prepare : YV yX3_prepare cX3_prepare 9 none 4 := ⟨m712, ms14, m7, m713, ⟨by decide +kernel, by decide +kernel, by decide +kernel⟩, by decide⟩
noncomputable def f_X3_prepare_138 (q r1 : Nat) (K59 : Int32 → Int32 → Int32 → Int32 → AH → Option (Unit × AH)) (K110 : Int32 → Int32 → Int32 → Int32 → Int32 → Int32 → AH → Option (Unit × AH)) (x2 : Int32) (x3 : Int32) (x4 : Int32) (x5 : Int32) (x6 : Int32) (x7 : Int32) (y0 : Int32) (h : AH) : Option (Unit × AH) := if y0 = 0 then (bd (f_X3_roomyHours r1 x5 x7 x3 x4 h) (fun v_3 h_2 => lt (((x5 * 6) + x7)) (fun v_4 => ck v_4 36 (lt (hset h_2 (q + 1) (v_4 : Int32).toNatClampNeg v_3) (fun h_5 => lt (x7 + 1) (fun v_6 => K110 x2 x3 x4 x5 x6 v_6 h_5)))))) else (lt (((x5 * 6) + x7)) (fun v_7 => ck v_7 36 (lt (hset h (q + 1) (v_7 : Int32).toNatClampNeg 0) (fun h_8 => lt (x7 + 1) (fun v_9 => K110 x2 x3 x4 x5 x6 v_9 h_8)))))
set_option maxRecDepth 20000 in
set_option maxHeartbeats 4000000 in
theorem t_X3_prepare_138 {z : MC} {g : GC} {A : Nat → Prop} (F : Fx z cX3_prepare 9 RX3 none 5 g A) {q : Nat} (hq : (gL g)[q]? = some (.inl 3)) {r1 : Nat} (hr1 : (gL g)[r1]? = some (.inl 2)) (K59 : Int32 → Int32 → Int32 → Int32 → AH → Option (Unit × AH)) (hK59 : ∀ (x2 : Int32) (x3 : Int32) (x4 : Int32) (x5 : Int32) (h : AH), Snd z 9 g A (QF z g A mkU) 59 [(0, .ref (gad g q)), (1, .ref (gad g r1)), (2, .int x2), (3, .int x3), (4, .int x4), (5, .int x5)] [] h (K59 x2 x3 x4 x5 h)) (K110 : Int32 → Int32 → Int32 → Int32 → Int32 → Int32 → AH → Option (Unit × AH)) (hK110 : ∀ (x2 : Int32) (x3 : Int32) (x4 : Int32) (x5 : Int32) (x6 : Int32) (x7 : Int32) (h : AH), Snd z 9 g A (QF z g A mkU) 110 [(0, .ref (gad g q)), (1, .ref (gad g r1)), (2, .int x2), (3, .int x3), (4, .int x4), (5, .int x5), (6, .int x6), (7, .int x7)] [] h (K110 x2 x3 x4 x5 x6 x7 h)) : ∀ (x2 : Int32) (x3 : Int32) (x4 : Int32) (x5 : Int32) (x6 : Int32) (x7 : Int32) (y0 : Int32) (h : AH), Snd z 9 g A (QF z g A mkU) 138 [(0, .ref (gad g q)), (1, .ref (gad g r1)), (2, .int x2), (3, .int x3), (4, .int x4), (5, .int x5), (6, .int x6), (7, .int x7)] [.int y0] h (f_X3_prepare_138 q r1 K59 K110 x2 x3 x4 x5 x6 x7 y0 h) := by
  intro x2 x3 x4 x5 x6 x7 y0 h
  unfold f_X3_prepare_138
  refine s_istore F (lv' := [(8, .int y0), (0, .ref (gad g q)), (1, .ref (gad g r1)), (2, .int x2), (3, .int x3), (4, .int x4), (5, .int x5), (6, .int x6), (7, .int x7)]) dX3_prepare_138 (by decide) rfl ?_
  refine s_aload_n F dX3_prepare_140 rfl 1 rfl ?_
  have hw_1 := wf_ref F.2.2.2.2.2.2.1 hq 0 1 (.inr (0, 36)) rfl
  refine s_getr F ciX3 0 1 (.inr (0, 36)) hq (by decide) rfl rfl m192 dX3_prepare_141 ?_
  refine s_iload F dX3_prepare_144 6 rfl ?_
  refine s_bipush F (v := 6) dX3_prepare_146 (by decide) ?_
  refine s_imul F dX3_prepare_148 ?_
  refine s_iload F dX3_prepare_149 8 rfl ?_
  refine s_iadd F dX3_prepare_151 ?_
  refine s_iload F dX3_prepare_152 0 rfl ?_
  refine s_if_eq F 161 dX3_prepare_154 (by decide) (fun _ => ?_) (fun _ => ?_)
  · refine s_aload_n F dX3_prepare_161 rfl 2 rfl ?_
    refine s_iload F dX3_prepare_162 6 rfl ?_
    refine s_iload F dX3_prepare_164 8 rfl ?_
    refine s_iload_n F dX3_prepare_166 rfl 4 rfl ?_
    refine s_iload F dX3_prepare_167 5 rfl ?_
    refine s_callSi (f := fun hh => f_X3_roomyHours r1 x5 x7 x3 x4 hh) (As := [.ref (gad g r1), .int x5, .int x7, .int x3, .int x4]) F ys_X3_roomyHours (ct_X3_roomyHours z.2.1 g hr1 x5 x7 x3 x4) (by decide) m719 rfl rfl (Nat.le_of_ble_eq_true rfl) dX3_prepare_169 (fun v_3 h_2 e_v_3 => ?_)
    refine s_leti2 (fun v_4 => ?_)
    refine s_iast F hw_1 dX3_prepare_172 ?_
    refine s_letH (fun h_5 => ?_)
    refine s_iincv F dX3_prepare_173 8 rfl (by decide) (c := 1) (by decide) (fun v_6 => ?_)
    refine s_lv (lv' := [(7, .int v_6), (8, .int y0), (0, .ref (gad g q)), (1, .ref (gad g r1)), (2, .int x2), (3, .int x3), (4, .int x4), (5, .int x5), (6, .int x6)]) rfl ?_
    refine s_goto F 110 dX3_prepare_176 (by decide) ?_
    exact s_sub [2, 3, 4, 5, 6, 7, 8, 0] rfl (hK110 x2 x3 x4 x5 x6 v_6 h_5)
  · refine s_iconst F (v := 0) dX3_prepare_157 (by decide) ?_
    refine s_goto F 172 dX3_prepare_158 (by decide) ?_
    refine s_leti2 (fun v_7 => ?_)
    refine s_iast F hw_1 dX3_prepare_172 ?_
    refine s_letH (fun h_8 => ?_)
    refine s_iincv F dX3_prepare_173 8 rfl (by decide) (c := 1) (by decide) (fun v_9 => ?_)
    refine s_lv (lv' := [(7, .int v_9), (8, .int y0), (0, .ref (gad g q)), (1, .ref (gad g r1)), (2, .int x2), (3, .int x3), (4, .int x4), (5, .int x5), (6, .int x6)]) rfl ?_
    refine s_goto F 110 dX3_prepare_176 (by decide) ?_
    exact s_sub [2, 3, 4, 5, 6, 7, 8, 0] rfl (hK110 x2 x3 x4 x5 x6 v_9 h_8)
noncomputable def f_X3_prepare_133 (q r1 : Nat) (K59 : Int32 → Int32 → Int32 → Int32 → AH → Option (Unit × AH)) (K110 : Int32 → Int32 → Int32 → Int32 → Int32 → Int32 → AH → Option (Unit × AH)) (x2 : Int32) (x3 : Int32) (x4 : Int32) (x5 : Int32) (x6 : Int32) (x7 : Int32) (h : AH) : Option (Unit × AH) := f_X3_prepare_138 q r1 K59 K110 x2 x3 x4 x5 x6 x7 1 h
set_option maxRecDepth 20000 in
set_option maxHeartbeats 4000000 in
theorem t_X3_prepare_133 {z : MC} {g : GC} {A : Nat → Prop} (F : Fx z cX3_prepare 9 RX3 none 5 g A) {q : Nat} (hq : (gL g)[q]? = some (.inl 3)) {r1 : Nat} (hr1 : (gL g)[r1]? = some (.inl 2)) (K59 : Int32 → Int32 → Int32 → Int32 → AH → Option (Unit × AH)) (hK59 : ∀ (x2 : Int32) (x3 : Int32) (x4 : Int32) (x5 : Int32) (h : AH), Snd z 9 g A (QF z g A mkU) 59 [(0, .ref (gad g q)), (1, .ref (gad g r1)), (2, .int x2), (3, .int x3), (4, .int x4), (5, .int x5)] [] h (K59 x2 x3 x4 x5 h)) (K110 : Int32 → Int32 → Int32 → Int32 → Int32 → Int32 → AH → Option (Unit × AH)) (hK110 : ∀ (x2 : Int32) (x3 : Int32) (x4 : Int32) (x5 : Int32) (x6 : Int32) (x7 : Int32) (h : AH), Snd z 9 g A (QF z g A mkU) 110 [(0, .ref (gad g q)), (1, .ref (gad g r1)), (2, .int x2), (3, .int x3), (4, .int x4), (5, .int x5), (6, .int x6), (7, .int x7)] [] h (K110 x2 x3 x4 x5 x6 x7 h)) : ∀ (x2 : Int32) (x3 : Int32) (x4 : Int32) (x5 : Int32) (x6 : Int32) (x7 : Int32) (h : AH), Snd z 9 g A (QF z g A mkU) 133 [(0, .ref (gad g q)), (1, .ref (gad g r1)), (2, .int x2), (3, .int x3), (4, .int x4), (5, .int x5), (6, .int x6), (7, .int x7)] [] h (f_X3_prepare_133 q r1 K59 K110 x2 x3 x4 x5 x6 x7 h) := by
  intro x2 x3 x4 x5 x6 x7 h
  unfold f_X3_prepare_133
  refine s_iconst F (v := 1) dX3_prepare_133 (by decide) ?_
  refine s_goto F 138 dX3_prepare_134 (by decide) ?_
  exact s_sub [0, 1, 2, 3, 4, 5, 6, 7] rfl (t_X3_prepare_138 F hq hr1 K59 hK59 K110 hK110 x2 x3 x4 x5 x6 x7 1 h)
noncomputable def f_X3_prepare_110 (q r1 : Nat) (K59 : Int32 → Int32 → Int32 → Int32 → AH → Option (Unit × AH)) : Nat → Int32 → Int32 → Int32 → Int32 → Int32 → Int32 → AH → Option (Unit × AH)
  | 0, _, _, _, _, _, _, _ => none
  | n + 1, x2, x3, x4, x5, x6, x7, h => if (h q 8) ≤ x7 then (lt (x5 + 1) (fun v_1 => K59 x2 x3 x4 v_1 h)) else (if x6 = 0 then (bd (f_X2_isShut r1 x7 h) (fun v_3 h_2 => if v_3 = 0 then (f_X3_prepare_138 q r1 K59 (f_X3_prepare_110 q r1 K59 n) x2 x3 x4 x5 x6 x7 0 h_2) else (f_X3_prepare_133 q r1 K59 (f_X3_prepare_110 q r1 K59 n) x2 x3 x4 x5 x6 x7 h_2))) else (f_X3_prepare_133 q r1 K59 (f_X3_prepare_110 q r1 K59 n) x2 x3 x4 x5 x6 x7 h))
set_option maxRecDepth 20000 in
set_option maxHeartbeats 4000000 in
theorem t_X3_prepare_110 {z : MC} {g : GC} {A : Nat → Prop} (F : Fx z cX3_prepare 9 RX3 none 5 g A) {q : Nat} (hq : (gL g)[q]? = some (.inl 3)) {r1 : Nat} (hr1 : (gL g)[r1]? = some (.inl 2)) (K59 : Int32 → Int32 → Int32 → Int32 → AH → Option (Unit × AH)) (hK59 : ∀ (x2 : Int32) (x3 : Int32) (x4 : Int32) (x5 : Int32) (h : AH), Snd z 9 g A (QF z g A mkU) 59 [(0, .ref (gad g q)), (1, .ref (gad g r1)), (2, .int x2), (3, .int x3), (4, .int x4), (5, .int x5)] [] h (K59 x2 x3 x4 x5 h)) : ∀ (n : Nat) (x2 : Int32) (x3 : Int32) (x4 : Int32) (x5 : Int32) (x6 : Int32) (x7 : Int32) (h : AH), Snd z 9 g A (QF z g A mkU) 110 [(0, .ref (gad g q)), (1, .ref (gad g r1)), (2, .int x2), (3, .int x3), (4, .int x4), (5, .int x5), (6, .int x6), (7, .int x7)] [] h (f_X3_prepare_110 q r1 K59 n x2 x3 x4 x5 x6 x7 h) := by
  intro n
  induction n with
  | zero => intros; exact s_none
  | succ n ih =>
    intro x2 x3 x4 x5 x6 x7 h
    unfold f_X3_prepare_110
    refine s_iload F dX3_prepare_110 7 rfl ?_
    refine s_aload_n F dX3_prepare_112 rfl 0 rfl ?_
    refine s_geti F ciX3 8 hq (by decide) rfl rfl m200 dX3_prepare_113 ?_
    refine s_icmp_ge F 179 dX3_prepare_116 (by decide) (fun _ => ?_) (fun _ => ?_)
    · refine s_iincv F dX3_prepare_179 5 rfl (by decide) (c := 1) (by decide) (fun v_1 => ?_)
      refine s_lv (lv' := [(5, .int v_1), (0, .ref (gad g q)), (1, .ref (gad g r1)), (2, .int x2), (3, .int x3), (4, .int x4), (6, .int x6), (7, .int x7)]) rfl ?_
      refine s_goto F 59 dX3_prepare_182 (by decide) ?_
      exact s_sub [1, 2, 3, 4, 5, 0] rfl (hK59 x2 x3 x4 v_1 h)
    · refine s_iload F dX3_prepare_119 6 rfl ?_
      refine s_if_ne F 133 dX3_prepare_121 (by decide) (fun _ => ?_) (fun _ => ?_)
      · exact s_sub [0, 1, 2, 3, 4, 5, 6, 7] rfl (t_X3_prepare_133 F hq hr1 K59 hK59 (f_X3_prepare_110 q r1 K59 n) ih x2 x3 x4 x5 x6 x7 h)
      · refine s_aload_n F dX3_prepare_124 rfl 1 rfl ?_
        refine s_iload F dX3_prepare_125 7 rfl ?_
        refine s_callVi (f := fun hh => f_X2_isShut r1 x7 hh) (As := [.int x7]) F yv_X2_isShut (ct_X2_isShut z.2.1 g hr1 x7) (by decide) m718 hr1 rfl rfl rfl (Nat.le_of_ble_eq_true rfl) dX3_prepare_127 (fun v_3 h_2 e_v_3 => ?_)
        refine s_if_eq F 137 dX3_prepare_130 (by decide) (fun _ => ?_) (fun _ => ?_)
        · refine s_iconst F (v := 0) dX3_prepare_137 (by decide) ?_
          exact s_sub [0, 1, 2, 3, 4, 5, 6, 7] rfl (t_X3_prepare_138 F hq hr1 K59 hK59 (f_X3_prepare_110 q r1 K59 n) ih x2 x3 x4 x5 x6 x7 0 h_2)
        · exact s_sub [0, 1, 2, 3, 4, 5, 6, 7] rfl (t_X3_prepare_133 F hq hr1 K59 hK59 (f_X3_prepare_110 q r1 K59 n) ih x2 x3 x4 x5 x6 x7 h_2)
noncomputable def f_X3_prepare_59 (q r1 : Nat) : Nat → Int32 → Int32 → Int32 → Int32 → AH → Option (Unit × AH)
  | 0, _, _, _, _, _ => none
  | n + 1, x2, x3, x4, x5, h => if (h q 9) ≤ x5 then (some ((), h)) else (bd (f_X2_chartersFor r1 x5 h) (fun v_3 h_2 => ck x5 6 (lt (hset h_2 (q + 2) (x5 : Int32).toNatClampNeg v_3) (fun h_4 => bd (f_X2_isGone r1 x5 h_4) (fun v_6 h_5 => if v_6 = 0 then (bd (f_X2_sideOf r1 x5 h_5) (fun v_8 h_7 => if v_8 = x2 then (f_X3_prepare_110 q r1 (f_X3_prepare_59 q r1 n) fu x2 x3 x4 x5 0 0 h_7) else (f_X3_prepare_110 q r1 (f_X3_prepare_59 q r1 n) fu x2 x3 x4 x5 1 0 h_7))) else (f_X3_prepare_110 q r1 (f_X3_prepare_59 q r1 n) fu x2 x3 x4 x5 1 0 h_5))))))
set_option maxRecDepth 20000 in
set_option maxHeartbeats 4000000 in
theorem t_X3_prepare_59 {z : MC} {g : GC} {A : Nat → Prop} (F : Fx z cX3_prepare 9 RX3 none 5 g A) {q : Nat} (hq : (gL g)[q]? = some (.inl 3)) {r1 : Nat} (hr1 : (gL g)[r1]? = some (.inl 2)) : ∀ (n : Nat) (x2 : Int32) (x3 : Int32) (x4 : Int32) (x5 : Int32) (h : AH), Snd z 9 g A (QF z g A mkU) 59 [(0, .ref (gad g q)), (1, .ref (gad g r1)), (2, .int x2), (3, .int x3), (4, .int x4), (5, .int x5)] [] h (f_X3_prepare_59 q r1 n x2 x3 x4 x5 h) := by
  intro n
  induction n with
  | zero => intros; exact s_none
  | succ n ih =>
    intro x2 x3 x4 x5 h
    unfold f_X3_prepare_59
    refine s_iload F dX3_prepare_59 5 rfl ?_
    refine s_aload_n F dX3_prepare_61 rfl 0 rfl ?_
    refine s_geti F ciX3 9 hq (by decide) rfl rfl m201 dX3_prepare_62 ?_
    refine s_icmp_ge F 185 dX3_prepare_65 (by decide) (fun _ => ?_) (fun _ => ?_)
    · exact s_vret F dX3_prepare_185
    · refine s_aload_n F dX3_prepare_68 rfl 0 rfl ?_
      have hw_1 := wf_ref F.2.2.2.2.2.2.1 hq 1 2 (.inr (0, 6)) rfl
      refine s_getr F ciX3 1 2 (.inr (0, 6)) hq (by decide) rfl rfl m193 dX3_prepare_69 ?_
      refine s_iload F dX3_prepare_72 5 rfl ?_
      refine s_aload_n F dX3_prepare_74 rfl 1 rfl ?_
      refine s_iload F dX3_prepare_75 5 rfl ?_
      refine s_callVi (f := fun hh => f_X2_chartersFor r1 x5 hh) (As := [.int x5]) F yv_X2_chartersFor (ct_X2_chartersFor z.2.1 g hr1 x5) (by decide) m715 hr1 rfl rfl rfl (Nat.le_of_ble_eq_true rfl) dX3_prepare_77 (fun v_3 h_2 e_v_3 => ?_)
      refine s_iast F hw_1 dX3_prepare_80 ?_
      refine s_letH (fun h_4 => ?_)
      refine s_aload_n F dX3_prepare_81 rfl 1 rfl ?_
      refine s_iload F dX3_prepare_82 5 rfl ?_
      refine s_callVi (f := fun hh => f_X2_isGone r1 x5 hh) (As := [.int x5]) F yv_X2_isGone (ct_X2_isGone z.2.1 g hr1 x5) (by decide) m716 hr1 rfl rfl rfl (Nat.le_of_ble_eq_true rfl) dX3_prepare_84 (fun v_6 h_5 e_v_6 => ?_)
      refine s_if_ne F 100 dX3_prepare_87 (by decide) (fun _ => ?_) (fun _ => ?_)
      · refine s_iconst F (v := 1) dX3_prepare_100 (by decide) ?_
        refine s_goto F 105 dX3_prepare_101 (by decide) ?_
        refine s_istore F (lv' := [(6, .int 1), (0, .ref (gad g q)), (1, .ref (gad g r1)), (2, .int x2), (3, .int x3), (4, .int x4), (5, .int x5)]) dX3_prepare_105 (by decide) rfl ?_
        refine s_iconst F (v := 0) dX3_prepare_107 (by decide) ?_
        refine s_istore F (lv' := [(7, .int 0), (6, .int 1), (0, .ref (gad g q)), (1, .ref (gad g r1)), (2, .int x2), (3, .int x3), (4, .int x4), (5, .int x5)]) dX3_prepare_108 (by decide) rfl ?_
        exact s_sub [2, 3, 4, 5, 6, 7, 1, 0] rfl (t_X3_prepare_110 F hq hr1 (f_X3_prepare_59 q r1 n) ih fu x2 x3 x4 x5 1 0 h_5)
      · refine s_aload_n F dX3_prepare_90 rfl 1 rfl ?_
        refine s_iload F dX3_prepare_91 5 rfl ?_
        refine s_callVi (f := fun hh => f_X2_sideOf r1 x5 hh) (As := [.int x5]) F yv_X2_sideOf (ct_X2_sideOf z.2.1 g hr1 x5) (by decide) m717 hr1 rfl rfl rfl (Nat.le_of_ble_eq_true rfl) dX3_prepare_93 (fun v_8 h_7 e_v_8 => ?_)
        refine s_iload_n F dX3_prepare_96 rfl 2 rfl ?_
        refine s_icmp_eq F 104 dX3_prepare_97 (by decide) (fun _ => ?_) (fun _ => ?_)
        · refine s_iconst F (v := 0) dX3_prepare_104 (by decide) ?_
          refine s_istore F (lv' := [(6, .int 0), (0, .ref (gad g q)), (1, .ref (gad g r1)), (2, .int x2), (3, .int x3), (4, .int x4), (5, .int x5)]) dX3_prepare_105 (by decide) rfl ?_
          refine s_iconst F (v := 0) dX3_prepare_107 (by decide) ?_
          refine s_istore F (lv' := [(7, .int 0), (6, .int 0), (0, .ref (gad g q)), (1, .ref (gad g r1)), (2, .int x2), (3, .int x3), (4, .int x4), (5, .int x5)]) dX3_prepare_108 (by decide) rfl ?_
          exact s_sub [2, 3, 4, 5, 6, 7, 1, 0] rfl (t_X3_prepare_110 F hq hr1 (f_X3_prepare_59 q r1 n) ih fu x2 x3 x4 x5 0 0 h_7)
        · refine s_iconst F (v := 1) dX3_prepare_100 (by decide) ?_
          refine s_goto F 105 dX3_prepare_101 (by decide) ?_
          refine s_istore F (lv' := [(6, .int 1), (0, .ref (gad g q)), (1, .ref (gad g r1)), (2, .int x2), (3, .int x3), (4, .int x4), (5, .int x5)]) dX3_prepare_105 (by decide) rfl ?_
          refine s_iconst F (v := 0) dX3_prepare_107 (by decide) ?_
          refine s_istore F (lv' := [(7, .int 0), (6, .int 1), (0, .ref (gad g q)), (1, .ref (gad g r1)), (2, .int x2), (3, .int x3), (4, .int x4), (5, .int x5)]) dX3_prepare_108 (by decide) rfl ?_
          exact s_sub [2, 3, 4, 5, 6, 7, 1, 0] rfl (t_X3_prepare_110 F hq hr1 (f_X3_prepare_59 q r1 n) ih fu x2 x3 x4 x5 1 0 h_7)
noncomputable def f_X3_prepare_19 (q r1 : Nat) : Nat → Int32 → Int32 → Int32 → Int32 → AH → Option (Unit × AH)
  | 0, _, _, _, _, _ => none
  | n + 1, x2, x3, x4, x5, h => if (h q 8) ≤ x5 then (f_X3_prepare_59 q r1 fu x2 x3 x4 0 h) else (bd (f_X2_charterOf r1 x2 x5 h) (fun v_3 h_2 => ck x5 6 (lt (hset h_2 (q + 3) (x5 : Int32).toNatClampNeg v_3) (fun h_4 => ck x5 6 (lt (hset h_4 (q + 5) (x5 : Int32).toNatClampNeg 0) (fun h_6 => lt (x5 + 1) (fun v_7 => (f_X3_prepare_19 q r1 n) x2 x3 x4 v_7 h_6)))))))
set_option maxRecDepth 20000 in
set_option maxHeartbeats 4000000 in
theorem t_X3_prepare_19 {z : MC} {g : GC} {A : Nat → Prop} (F : Fx z cX3_prepare 9 RX3 none 5 g A) {q : Nat} (hq : (gL g)[q]? = some (.inl 3)) {r1 : Nat} (hr1 : (gL g)[r1]? = some (.inl 2)) : ∀ (n : Nat) (x2 : Int32) (x3 : Int32) (x4 : Int32) (x5 : Int32) (h : AH), Snd z 9 g A (QF z g A mkU) 19 [(0, .ref (gad g q)), (1, .ref (gad g r1)), (2, .int x2), (3, .int x3), (4, .int x4), (5, .int x5)] [] h (f_X3_prepare_19 q r1 n x2 x3 x4 x5 h) := by
  intro n
  induction n with
  | zero => intros; exact s_none
  | succ n ih =>
    intro x2 x3 x4 x5 h
    unfold f_X3_prepare_19
    refine s_iload F dX3_prepare_19 5 rfl ?_
    refine s_aload_n F dX3_prepare_21 rfl 0 rfl ?_
    refine s_geti F ciX3 8 hq (by decide) rfl rfl m200 dX3_prepare_22 ?_
    refine s_icmp_ge F 56 dX3_prepare_25 (by decide) (fun _ => ?_) (fun _ => ?_)
    · refine s_iconst F (v := 0) dX3_prepare_56 (by decide) ?_
      refine s_istore F (lv' := [(5, .int 0), (0, .ref (gad g q)), (1, .ref (gad g r1)), (2, .int x2), (3, .int x3), (4, .int x4)]) dX3_prepare_57 (by decide) rfl ?_
      exact s_sub [1, 2, 3, 4, 5, 0] rfl (t_X3_prepare_59 F hq hr1 fu x2 x3 x4 0 h)
    · refine s_aload_n F dX3_prepare_28 rfl 0 rfl ?_
      have hw_1 := wf_ref F.2.2.2.2.2.2.1 hq 2 3 (.inr (0, 6)) rfl
      refine s_getr F ciX3 2 3 (.inr (0, 6)) hq (by decide) rfl rfl m194 dX3_prepare_29 ?_
      refine s_iload F dX3_prepare_32 5 rfl ?_
      refine s_aload_n F dX3_prepare_34 rfl 1 rfl ?_
      refine s_iload_n F dX3_prepare_35 rfl 2 rfl ?_
      refine s_iload F dX3_prepare_36 5 rfl ?_
      refine s_callVi (f := fun hh => f_X2_charterOf r1 x2 x5 hh) (As := [.int x2, .int x5]) F yv_X2_charterOf (ct_X2_charterOf z.2.1 g hr1 x2 x5) (by decide) m714 hr1 rfl rfl rfl (Nat.le_of_ble_eq_true rfl) dX3_prepare_38 (fun v_3 h_2 e_v_3 => ?_)
      refine s_iast F hw_1 dX3_prepare_41 ?_
      refine s_letH (fun h_4 => ?_)
      refine s_aload_n F dX3_prepare_42 rfl 0 rfl ?_
      have hw_5 := wf_ref F.2.2.2.2.2.2.1 hq 4 5 (.inr (0, 6)) rfl
      refine s_getr F ciX3 4 5 (.inr (0, 6)) hq (by decide) rfl rfl m196 dX3_prepare_43 ?_
      refine s_iload F dX3_prepare_46 5 rfl ?_
      refine s_iconst F (v := 0) dX3_prepare_48 (by decide) ?_
      refine s_iast F hw_5 dX3_prepare_49 ?_
      refine s_letH (fun h_6 => ?_)
      refine s_iincv F dX3_prepare_50 5 rfl (by decide) (c := 1) (by decide) (fun v_7 => ?_)
      refine s_lv (lv' := [(5, .int v_7), (0, .ref (gad g q)), (1, .ref (gad g r1)), (2, .int x2), (3, .int x3), (4, .int x4)]) rfl ?_
      refine s_goto F 19 dX3_prepare_53 (by decide) ?_
      exact s_sub [1, 2, 3, 4, 5, 0] rfl (ih x2 x3 x4 v_7 h_6)
noncomputable def f_X3_prepare (q : Nat) (r1 : Nat) (x2 : Int32) (x3 : Int32) (x4 : Int32) (h : AH) : Option (Unit × AH) := lt (hset h q 8 (h r1 1)) (fun h_1 => lt (hset h_1 q 9 (h_1 r1 2)) (fun h_2 => f_X3_prepare_19 q r1 fu x2 x3 x4 0 h_2))
set_option maxRecDepth 20000 in
set_option maxHeartbeats 4000000 in
theorem ct_X3_prepare (l : Launch) (g : GC) {q : Nat} (hq : (gL g)[q]? = some (.inl 3)) {r1 : Nat} (hr1 : (gL g)[r1]? = some (.inl 2)) (x2 : Int32) (x3 : Int32) (x4 : Int32) : Ct l yX3_prepare cX3_prepare 9 none 5 [.ref (gad g q), .ref (gad g r1), .int x2, .int x3, .int x4] g mkU (fun h => f_X3_prepare q r1 x2 x3 x4 h) := by
  refine Ct.of (by decide +kernel) (Nat.le_of_ble_eq_true rfl) (fun z A h _ F => ?_)
  show Snd z 9 g A (QF z g A mkU) 0 [(0, .ref (gad g q)), (1, .ref (gad g r1)), (2, .int x2), (3, .int x3), (4, .int x4)] [] h (f_X3_prepare q r1 x2 x3 x4 h)
  unfold f_X3_prepare
  refine s_aload_n F dX3_prepare_0 rfl 0 rfl ?_
  refine s_aload_n F dX3_prepare_1 rfl 1 rfl ?_
  refine s_getiN F ciX2 1 hr1 (by decide) rfl rfl (List.mem_of_getElem? (i := 17) rfl) dX3_prepare_2 ?_
  refine s_put F ciX3 (k := 8) hq (by decide) rfl rfl rfl rfl m200 dX3_prepare_5 ?_
  refine s_letH (fun h_1 => ?_)
  refine s_aload_n F dX3_prepare_8 rfl 0 rfl ?_
  refine s_aload_n F dX3_prepare_9 rfl 1 rfl ?_
  refine s_getiN F ciX2 2 hr1 (by decide) rfl rfl (List.mem_of_getElem? (i := 18) rfl) dX3_prepare_10 ?_
  refine s_put F ciX3 (k := 9) hq (by decide) rfl rfl rfl rfl m201 dX3_prepare_13 ?_
  refine s_letH (fun h_2 => ?_)
  refine s_iconst F (v := 0) dX3_prepare_16 (by decide) ?_
  refine s_istore F (lv' := [(5, .int 0), (0, .ref (gad g q)), (1, .ref (gad g r1)), (2, .int x2), (3, .int x3), (4, .int x4)]) dX3_prepare_17 (by decide) rfl ?_
  exact s_sub [1, 2, 3, 4, 5, 0] rfl (t_X3_prepare_19 F hq hr1 fu x2 x3 x4 0 h_2)
theorem dX3_greatestOf_0 : decode cX3_greatestOf 0 = .ok (.aload_n 0, 1) := by decide +kernel
theorem dX3_greatestOf_1 : decode cX3_greatestOf 1 = .ok (.aload_n 1, 1) := by decide +kernel
theorem dX3_greatestOf_2 : decode cX3_greatestOf 2 = .ok (.iload_n 2, 1) := by decide +kernel
theorem dX3_greatestOf_3 : decode cX3_greatestOf 3 = .ok (.iload_n 3, 1) := by decide +kernel
theorem dX3_greatestOf_4 : decode cX3_greatestOf 4 = .ok (.iload 4, 2) := by decide +kernel
theorem dX3_greatestOf_6 : decode cX3_greatestOf 6 = .ok (.invokevirtual 51, 3) := by decide +kernel
theorem dX3_greatestOf_9 : decode cX3_greatestOf 9 = .ok (.aload_n 0, 1) := by decide +kernel
theorem dX3_greatestOf_10 : decode cX3_greatestOf 10 = .ok (.iconst 0, 1) := by decide +kernel
theorem dX3_greatestOf_11 : decode cX3_greatestOf 11 = .ok (.invokevirtual 62, 3) := by decide +kernel
theorem dX3_greatestOf_14 : decode cX3_greatestOf 14 = .ok (.ireturn, 1) := by decide +kernel
theorem yv_X3_greatestOf : YV yX3_greatestOf cX3_greatestOf 5 (some .int) 4 := ⟨m708, ms13, m7, m709, ⟨by decide +kernel, by decide +kernel, by decide +kernel⟩, by decide⟩
noncomputable def f_X3_greatestOf (q : Nat) (r1 : Nat) (x2 : Int32) (x3 : Int32) (x4 : Int32) (h : AH) : Option (Int32 × AH) := bd (f_X3_prepare q r1 x2 x3 x4 h) (fun _ h_1 => bd (f_X3_placedFrom q 0 h_1) (fun v_4 h_3 => some (v_4, h_3)))
set_option maxRecDepth 20000 in
set_option maxHeartbeats 4000000 in
theorem ct_X3_greatestOf (l : Launch) (g : GC) {q : Nat} (hq : (gL g)[q]? = some (.inl 3)) {r1 : Nat} (hr1 : (gL g)[r1]? = some (.inl 2)) (x2 : Int32) (x3 : Int32) (x4 : Int32) : Ct l yX3_greatestOf cX3_greatestOf 5 (some .int) 15 [.ref (gad g q), .ref (gad g r1), .int x2, .int x3, .int x4] g mkI (fun h => f_X3_greatestOf q r1 x2 x3 x4 h) := by
  refine Ct.of (by decide +kernel) (Nat.le_of_ble_eq_true rfl) (fun z A h _ F => ?_)
  show Snd z 5 g A (QF z g A mkI) 0 [(0, .ref (gad g q)), (1, .ref (gad g r1)), (2, .int x2), (3, .int x3), (4, .int x4)] [] h (f_X3_greatestOf q r1 x2 x3 x4 h)
  unfold f_X3_greatestOf
  refine s_aload_n F dX3_greatestOf_0 rfl 0 rfl ?_
  refine s_aload_n F dX3_greatestOf_1 rfl 1 rfl ?_
  refine s_iload_n F dX3_greatestOf_2 rfl 2 rfl ?_
  refine s_iload_n F dX3_greatestOf_3 rfl 3 rfl ?_
  refine s_iload F dX3_greatestOf_4 4 rfl ?_
  refine s_callVu (f := fun hh => f_X3_prepare q r1 x2 x3 x4 hh) (As := [.ref (gad g r1), .int x2, .int x3, .int x4]) F yv_X3_prepare (ct_X3_prepare z.2.1 g hq hr1 x2 x3 x4) (by decide) m710 hq rfl rfl rfl (Nat.le_of_ble_eq_true rfl) dX3_greatestOf_6 (fun _ h_1 e_v_2 => ?_)
  refine s_aload_n F dX3_greatestOf_9 rfl 0 rfl ?_
  refine s_iconst F (v := 0) dX3_greatestOf_10 (by decide) ?_
  refine s_callVi (f := fun hh => f_X3_placedFrom q 0 hh) (As := [.int 0]) F yv_X3_placedFrom (ct_X3_placedFrom z.2.1 g hq 0) (by decide) m724 hq rfl rfl rfl (Nat.le_of_ble_eq_true rfl) dX3_greatestOf_11 (fun v_4 h_3 e_v_4 => ?_)
  exact s_iret F dX3_greatestOf_14
theorem dX3_greatest_0 : decode cX3_greatest 0 = .ok (.aload_n 0, 1) := by decide +kernel
theorem dX3_greatest_1 : decode cX3_greatest 1 = .ok (.aload_n 1, 1) := by decide +kernel
theorem dX3_greatest_2 : decode cX3_greatest 2 = .ok (.iconst 0, 1) := by decide +kernel
theorem dX3_greatest_3 : decode cX3_greatest 3 = .ok (.iload_n 2, 1) := by decide +kernel
theorem dX3_greatest_4 : decode cX3_greatest 4 = .ok (.iload_n 3, 1) := by decide +kernel
theorem dX3_greatest_5 : decode cX3_greatest 5 = .ok (.invokevirtual 36, 3) := by decide +kernel
theorem dX3_greatest_8 : decode cX3_greatest 8 = .ok (.aload_n 0, 1) := by decide +kernel
theorem dX3_greatest_9 : decode cX3_greatest 9 = .ok (.aload_n 1, 1) := by decide +kernel
theorem dX3_greatest_10 : decode cX3_greatest 10 = .ok (.iconst 1, 1) := by decide +kernel
theorem dX3_greatest_11 : decode cX3_greatest 11 = .ok (.iload_n 2, 1) := by decide +kernel
theorem dX3_greatest_12 : decode cX3_greatest 12 = .ok (.iload_n 3, 1) := by decide +kernel
theorem dX3_greatest_13 : decode cX3_greatest 13 = .ok (.invokevirtual 36, 3) := by decide +kernel
theorem dX3_greatest_16 : decode cX3_greatest 16 = .ok (.iadd, 1) := by decide +kernel
theorem dX3_greatest_17 : decode cX3_greatest 17 = .ok (.ireturn, 1) := by decide +kernel
theorem yv_X3_greatest : YV yX3_greatest cX3_greatest 4 (some .int) 3 := ⟨m703, m704, m7, m705, ⟨by decide +kernel, by decide +kernel, by decide +kernel⟩, by decide⟩
noncomputable def f_X3_greatest (q : Nat) (r1 : Nat) (x2 : Int32) (x3 : Int32) (h : AH) : Option (Int32 × AH) := bd (f_X3_greatestOf q r1 0 x2 x3 h) (fun v_2 h_1 => bd (f_X3_greatestOf q r1 1 x2 x3 h_1) (fun v_4 h_3 => some ((v_2 + v_4), h_3)))
set_option maxRecDepth 20000 in
set_option maxHeartbeats 4000000 in
theorem ct_X3_greatest (l : Launch) (g : GC) {q : Nat} (hq : (gL g)[q]? = some (.inl 3)) {r1 : Nat} (hr1 : (gL g)[r1]? = some (.inl 2)) (x2 : Int32) (x3 : Int32) : Ct l yX3_greatest cX3_greatest 4 (some .int) 16 [.ref (gad g q), .ref (gad g r1), .int x2, .int x3] g mkI (fun h => f_X3_greatest q r1 x2 x3 h) := by
  refine Ct.of (by decide +kernel) (Nat.le_of_ble_eq_true rfl) (fun z A h _ F => ?_)
  show Snd z 4 g A (QF z g A mkI) 0 [(0, .ref (gad g q)), (1, .ref (gad g r1)), (2, .int x2), (3, .int x3)] [] h (f_X3_greatest q r1 x2 x3 h)
  unfold f_X3_greatest
  refine s_aload_n F dX3_greatest_0 rfl 0 rfl ?_
  refine s_aload_n F dX3_greatest_1 rfl 1 rfl ?_
  refine s_iconst F (v := 0) dX3_greatest_2 (by decide) ?_
  refine s_iload_n F dX3_greatest_3 rfl 2 rfl ?_
  refine s_iload_n F dX3_greatest_4 rfl 3 rfl ?_
  refine s_callVi (f := fun hh => f_X3_greatestOf q r1 0 x2 x3 hh) (As := [.ref (gad g r1), .int 0, .int x2, .int x3]) F yv_X3_greatestOf (ct_X3_greatestOf z.2.1 g hq hr1 0 x2 x3) (by decide) m706 hq rfl rfl rfl (Nat.le_of_ble_eq_true rfl) dX3_greatest_5 (fun v_2 h_1 e_v_2 => ?_)
  refine s_aload_n F dX3_greatest_8 rfl 0 rfl ?_
  refine s_aload_n F dX3_greatest_9 rfl 1 rfl ?_
  refine s_iconst F (v := 1) dX3_greatest_10 (by decide) ?_
  refine s_iload_n F dX3_greatest_11 rfl 2 rfl ?_
  refine s_iload_n F dX3_greatest_12 rfl 3 rfl ?_
  refine s_callVi (f := fun hh => f_X3_greatestOf q r1 1 x2 x3 hh) (As := [.ref (gad g r1), .int 1, .int x2, .int x3]) F yv_X3_greatestOf (ct_X3_greatestOf z.2.1 g hq hr1 1 x2 x3) (by decide) m706 hq rfl rfl rfl (Nat.le_of_ble_eq_true rfl) dX3_greatest_13 (fun v_4 h_3 e_v_4 => ?_)
  refine s_iadd F dX3_greatest_16 ?_
  exact s_iret F dX3_greatest_17
theorem dX3_settleFirst_0 : decode cX3_settleFirst 0 = .ok (.iload_n 3, 1) := by decide +kernel
theorem dX3_settleFirst_1 : decode cX3_settleFirst 1 = .ok (.istore 5, 2) := by decide +kernel
theorem dX3_settleFirst_3 : decode cX3_settleFirst 3 = .ok (.iload 5, 2) := by decide +kernel
theorem dX3_settleFirst_5 : decode cX3_settleFirst 5 = .ok (.iload 4, 2) := by decide +kernel
theorem dX3_settleFirst_7 : decode cX3_settleFirst 7 = .ok (.if_icmp .gt 107, 3) := by decide +kernel
theorem dX3_settleFirst_10 : decode cX3_settleFirst 10 = .ok (.iconst 0, 1) := by decide +kernel
theorem dX3_settleFirst_11 : decode cX3_settleFirst 11 = .ok (.istore 6, 2) := by decide +kernel
theorem dX3_settleFirst_13 : decode cX3_settleFirst 13 = .ok (.iload 6, 2) := by decide +kernel
theorem dX3_settleFirst_15 : decode cX3_settleFirst 15 = .ok (.aload_n 0, 1) := by decide +kernel
theorem dX3_settleFirst_16 : decode cX3_settleFirst 16 = .ok (.getfield 79, 3) := by decide +kernel
theorem dX3_settleFirst_19 : decode cX3_settleFirst 19 = .ok (.if_icmp .ge 89, 3) := by decide +kernel
theorem dX3_settleFirst_22 : decode cX3_settleFirst 22 = .ok (.iconst 1, 1) := by decide +kernel
theorem dX3_settleFirst_23 : decode cX3_settleFirst 23 = .ok (.iload 5, 2) := by decide +kernel
theorem dX3_settleFirst_25 : decode cX3_settleFirst 25 = .ok (.ishl, 1) := by decide +kernel
theorem dX3_settleFirst_26 : decode cX3_settleFirst 26 = .ok (.istore 7, 2) := by decide +kernel
theorem dX3_settleFirst_28 : decode cX3_settleFirst 28 = .ok (.aload_n 0, 1) := by decide +kernel
theorem dX3_settleFirst_29 : decode cX3_settleFirst 29 = .ok (.iload_n 1, 1) := by decide +kernel
theorem dX3_settleFirst_30 : decode cX3_settleFirst 30 = .ok (.iload 6, 2) := by decide +kernel
theorem dX3_settleFirst_32 : decode cX3_settleFirst 32 = .ok (.invokevirtual 128, 3) := by decide +kernel
theorem dX3_settleFirst_35 : decode cX3_settleFirst 35 = .ok (.aload_n 0, 1) := by decide +kernel
theorem dX3_settleFirst_36 : decode cX3_settleFirst 36 = .ok (.getfield 24, 3) := by decide +kernel
theorem dX3_settleFirst_39 : decode cX3_settleFirst 39 = .ok (.iload 6, 2) := by decide +kernel
theorem dX3_settleFirst_41 : decode cX3_settleFirst 41 = .ok (.iaload, 1) := by decide +kernel
theorem dX3_settleFirst_42 : decode cX3_settleFirst 42 = .ok (.iconst (-1), 1) := by decide +kernel
theorem dX3_settleFirst_43 : decode cX3_settleFirst 43 = .ok (.ixor, 1) := by decide +kernel
theorem dX3_settleFirst_44 : decode cX3_settleFirst 44 = .ok (.iand, 1) := by decide +kernel
theorem dX3_settleFirst_45 : decode cX3_settleFirst 45 = .ok (.iload 7, 2) := by decide +kernel
theorem dX3_settleFirst_47 : decode cX3_settleFirst 47 = .ok (.iand, 1) := by decide +kernel
theorem dX3_settleFirst_48 : decode cX3_settleFirst 48 = .ok (.ifCond .ne 6, 3) := by decide +kernel
theorem dX3_settleFirst_51 : decode cX3_settleFirst 51 = .ok (.goto 51, 3) := by decide +kernel
theorem dX3_settleFirst_54 : decode cX3_settleFirst 54 = .ok (.aload_n 0, 1) := by decide +kernel
theorem dX3_settleFirst_55 : decode cX3_settleFirst 55 = .ok (.getfield 24, 3) := by decide +kernel
theorem dX3_settleFirst_58 : decode cX3_settleFirst 58 = .ok (.iload 6, 2) := by decide +kernel
theorem dX3_settleFirst_60 : decode cX3_settleFirst 60 = .ok (.dup2, 1) := by decide +kernel
theorem dX3_settleFirst_61 : decode cX3_settleFirst 61 = .ok (.iaload, 1) := by decide +kernel
theorem dX3_settleFirst_62 : decode cX3_settleFirst 62 = .ok (.iload 7, 2) := by decide +kernel
theorem dX3_settleFirst_64 : decode cX3_settleFirst 64 = .ok (.ior, 1) := by decide +kernel
theorem dX3_settleFirst_65 : decode cX3_settleFirst 65 = .ok (.iastore, 1) := by decide +kernel
theorem dX3_settleFirst_66 : decode cX3_settleFirst 66 = .ok (.aload_n 0, 1) := by decide +kernel
theorem dX3_settleFirst_67 : decode cX3_settleFirst 67 = .ok (.iload_n 1, 1) := by decide +kernel
theorem dX3_settleFirst_68 : decode cX3_settleFirst 68 = .ok (.iconst 1, 1) := by decide +kernel
theorem dX3_settleFirst_69 : decode cX3_settleFirst 69 = .ok (.iadd, 1) := by decide +kernel
theorem dX3_settleFirst_70 : decode cX3_settleFirst 70 = .ok (.invokevirtual 62, 3) := by decide +kernel
theorem dX3_settleFirst_73 : decode cX3_settleFirst 73 = .ok (.iload_n 2, 1) := by decide +kernel
theorem dX3_settleFirst_74 : decode cX3_settleFirst 74 = .ok (.iconst 1, 1) := by decide +kernel
theorem dX3_settleFirst_75 : decode cX3_settleFirst 75 = .ok (.isub, 1) := by decide +kernel
theorem dX3_settleFirst_76 : decode cX3_settleFirst 76 = .ok (.if_icmp .ne 12, 3) := by decide +kernel
theorem dX3_settleFirst_79 : decode cX3_settleFirst 79 = .ok (.bipush 6, 2) := by decide +kernel
theorem dX3_settleFirst_81 : decode cX3_settleFirst 81 = .ok (.iload 5, 2) := by decide +kernel
theorem dX3_settleFirst_83 : decode cX3_settleFirst 83 = .ok (.imul, 1) := by decide +kernel
theorem dX3_settleFirst_84 : decode cX3_settleFirst 84 = .ok (.iload 6, 2) := by decide +kernel
theorem dX3_settleFirst_86 : decode cX3_settleFirst 86 = .ok (.iadd, 1) := by decide +kernel
theorem dX3_settleFirst_87 : decode cX3_settleFirst 87 = .ok (.ireturn, 1) := by decide +kernel
theorem dX3_settleFirst_88 : decode cX3_settleFirst 88 = .ok (.aload_n 0, 1) := by decide +kernel
theorem dX3_settleFirst_89 : decode cX3_settleFirst 89 = .ok (.getfield 24, 3) := by decide +kernel
theorem dX3_settleFirst_92 : decode cX3_settleFirst 92 = .ok (.iload 6, 2) := by decide +kernel
theorem dX3_settleFirst_94 : decode cX3_settleFirst 94 = .ok (.dup2, 1) := by decide +kernel
theorem dX3_settleFirst_95 : decode cX3_settleFirst 95 = .ok (.iaload, 1) := by decide +kernel
theorem dX3_settleFirst_96 : decode cX3_settleFirst 96 = .ok (.iload 7, 2) := by decide +kernel
theorem dX3_settleFirst_98 : decode cX3_settleFirst 98 = .ok (.iconst (-1), 1) := by decide +kernel
theorem dX3_settleFirst_99 : decode cX3_settleFirst 99 = .ok (.ixor, 1) := by decide +kernel
theorem dX3_settleFirst_100 : decode cX3_settleFirst 100 = .ok (.iand, 1) := by decide +kernel
theorem dX3_settleFirst_101 : decode cX3_settleFirst 101 = .ok (.iastore, 1) := by decide +kernel
theorem dX3_settleFirst_102 : decode cX3_settleFirst 102 = .ok (.iinc 6 1, 3) := by decide +kernel
theorem dX3_settleFirst_105 : decode cX3_settleFirst 105 = .ok (.goto (-92), 3) := by decide +kernel
theorem dX3_settleFirst_108 : decode cX3_settleFirst 108 = .ok (.iinc 5 1, 3) := by decide +kernel
theorem dX3_settleFirst_111 : decode cX3_settleFirst 111 = .ok (.goto (-108), 3) := by decide +kernel
theorem dX3_settleFirst_114 : decode cX3_settleFirst 114 = .ok (.ldc 46, 2) := by decide +kernel
theorem dX3_settleFirst_116 : decode cX3_settleFirst 116 = .ok (.ireturn, 1) := by decide +kernel
theorem yv_X3_settleFirst : YV yX3_settleFirst cX3_settleFirst 8 (some .int) 4 := ⟨m750, ms19, m7, m751, ⟨by decide +kernel, by decide +kernel, by decide +kernel⟩, by decide⟩
noncomputable def f_X3_settleFirst_13 (q : Nat) (K3 : Int32 → Int32 → Int32 → Int32 → AH → Option (Int32 × AH)) : Nat → Int32 → Int32 → Int32 → Int32 → Int32 → AH → Option (Int32 × AH)
  | 0, _, _, _, _, _, _ => none
  | n + 1, x1, x2, x4, x5, x6, h => if (h q 8) ≤ x6 then (lt (x5 + 1) (fun v_1 => K3 x1 x2 x4 v_1 h)) else (lt ((1 <<< (x5 &&& 31))) (fun v_2 => bd (f_X3_openHours q x1 x6 h) (fun v_4 h_3 => ck x6 6 (if ((v_4 &&& ((h_3 (q + 5) (x6 : Int32).toNatClampNeg) ^^^ (-1))) &&& v_2) = 0 then (lt (x6 + 1) (fun v_13 => (f_X3_settleFirst_13 q K3 n) x1 x2 x4 x5 v_13 h_3)) else (ck x6 6 (ck x6 6 (lt (hset h_3 (q + 5) (x6 : Int32).toNatClampNeg ((h_3 (q + 5) (x6 : Int32).toNatClampNeg) ||| v_2)) (fun h_7 => bd (f_X3_placedFrom q (x1 + 1) h_7) (fun v_9 h_8 => if v_9 = (x2 - 1) then (some (((6 * x5) + x6), h_8)) else (ck x6 6 (ck x6 6 (lt (hset h_8 (q + 5) (x6 : Int32).toNatClampNeg ((h_8 (q + 5) (x6 : Int32).toNatClampNeg) &&& (v_2 ^^^ (-1)))) (fun h_11 => lt (x6 + 1) (fun v_12 => (f_X3_settleFirst_13 q K3 n) x1 x2 x4 x5 v_12 h_11))))))))))))))
set_option maxRecDepth 20000 in
set_option maxHeartbeats 4000000 in
theorem t_X3_settleFirst_13 {z : MC} {g : GC} {A : Nat → Prop} (F : Fx z cX3_settleFirst 8 RX3 (some .int) 15 g A) {q : Nat} (hq : (gL g)[q]? = some (.inl 3)) (K3 : Int32 → Int32 → Int32 → Int32 → AH → Option (Int32 × AH)) (hK3 : ∀ (x1 : Int32) (x2 : Int32) (x4 : Int32) (x5 : Int32) (h : AH), Snd z 8 g A (QF z g A mkI) 3 [(0, .ref (gad g q)), (1, .int x1), (2, .int x2), (4, .int x4), (5, .int x5)] [] h (K3 x1 x2 x4 x5 h)) : ∀ (n : Nat) (x1 : Int32) (x2 : Int32) (x4 : Int32) (x5 : Int32) (x6 : Int32) (h : AH), Snd z 8 g A (QF z g A mkI) 13 [(0, .ref (gad g q)), (1, .int x1), (2, .int x2), (4, .int x4), (5, .int x5), (6, .int x6)] [] h (f_X3_settleFirst_13 q K3 n x1 x2 x4 x5 x6 h) := by
  intro n
  induction n with
  | zero => intros; exact s_none
  | succ n ih =>
    intro x1 x2 x4 x5 x6 h
    unfold f_X3_settleFirst_13
    refine s_iload F dX3_settleFirst_13 5 rfl ?_
    refine s_aload_n F dX3_settleFirst_15 rfl 0 rfl ?_
    refine s_geti F ciX3 8 hq (by decide) rfl rfl m200 dX3_settleFirst_16 ?_
    refine s_icmp_ge F 108 dX3_settleFirst_19 (by decide) (fun _ => ?_) (fun _ => ?_)
    · refine s_iincv F dX3_settleFirst_108 4 rfl (by decide) (c := 1) (by decide) (fun v_1 => ?_)
      refine s_lv (lv' := [(5, .int v_1), (0, .ref (gad g q)), (1, .int x1), (2, .int x2), (4, .int x4), (6, .int x6)]) rfl ?_
      refine s_goto F 3 dX3_settleFirst_111 (by decide) ?_
      exact s_sub [1, 2, 3, 4, 0] rfl (hK3 x1 x2 x4 v_1 h)
    · refine s_iconst F (v := 1) dX3_settleFirst_22 (by decide) ?_
      refine s_iload F dX3_settleFirst_23 4 rfl ?_
      refine s_ishl F dX3_settleFirst_25 ?_
      refine s_leti (fun v_2 => ?_)
      refine s_istore F (lv' := [(7, .int v_2), (0, .ref (gad g q)), (1, .int x1), (2, .int x2), (4, .int x4), (5, .int x5), (6, .int x6)]) dX3_settleFirst_26 (by decide) rfl ?_
      refine s_aload_n F dX3_settleFirst_28 rfl 1 rfl ?_
      refine s_iload_n F dX3_settleFirst_29 rfl 2 rfl ?_
      refine s_iload F dX3_settleFirst_30 6 rfl ?_
      refine s_callVi (f := fun hh => f_X3_openHours q x1 x6 hh) (As := [.int x1, .int x6]) F yv_X3_openHours (ct_X3_openHours z.2.1 g hq x1 x6) (by decide) m734 hq rfl rfl rfl (Nat.le_of_ble_eq_true rfl) dX3_settleFirst_32 (fun v_4 h_3 e_v_4 => ?_)
      refine s_aload_n F dX3_settleFirst_35 rfl 1 rfl ?_
      have hw_5 := wf_ref F.2.2.2.2.2.2.1 hq 4 5 (.inr (0, 6)) rfl
      refine s_getr F ciX3 4 5 (.inr (0, 6)) hq (by decide) rfl rfl m196 dX3_settleFirst_36 ?_
      refine s_iload F dX3_settleFirst_39 6 rfl ?_
      refine s_iald F hw_5 dX3_settleFirst_41 ?_
      refine s_iconst F (v := (-1)) dX3_settleFirst_42 (by decide) ?_
      refine s_ixor F dX3_settleFirst_43 ?_
      refine s_iand F dX3_settleFirst_44 ?_
      refine s_iload F dX3_settleFirst_45 0 rfl ?_
      refine s_iand F dX3_settleFirst_47 ?_
      refine s_if_ne F 54 dX3_settleFirst_48 (by decide) (fun _ => ?_) (fun _ => ?_)
      · refine s_aload_n F dX3_settleFirst_54 rfl 1 rfl ?_
        have hw_6 := wf_ref F.2.2.2.2.2.2.1 hq 4 5 (.inr (0, 6)) rfl
        refine s_getr F ciX3 4 5 (.inr (0, 6)) hq (by decide) rfl rfl m196 dX3_settleFirst_55 ?_
        refine s_iload F dX3_settleFirst_58 6 rfl ?_
        refine s_dup2 F dX3_settleFirst_60 rfl rfl ?_
        refine s_iald F hw_6 dX3_settleFirst_61 ?_
        refine s_iload F dX3_settleFirst_62 0 rfl ?_
        refine s_ior F dX3_settleFirst_64 ?_
        refine s_iast F hw_6 dX3_settleFirst_65 ?_
        refine s_letH (fun h_7 => ?_)
        refine s_aload_n F dX3_settleFirst_66 rfl 1 rfl ?_
        refine s_iload_n F dX3_settleFirst_67 rfl 2 rfl ?_
        refine s_iconst F (v := 1) dX3_settleFirst_68 (by decide) ?_
        refine s_iadd F dX3_settleFirst_69 ?_
        refine s_callVi (f := fun hh => f_X3_placedFrom q (x1 + 1) hh) (As := [.int (x1 + 1)]) F yv_X3_placedFrom (ct_X3_placedFrom z.2.1 g hq (x1 + 1)) (by decide) m724 hq rfl rfl rfl (Nat.le_of_ble_eq_true rfl) dX3_settleFirst_70 (fun v_9 h_8 e_v_9 => ?_)
        refine s_iload_n F dX3_settleFirst_73 rfl 3 rfl ?_
        refine s_iconst F (v := 1) dX3_settleFirst_74 (by decide) ?_
        refine s_isub F dX3_settleFirst_75 ?_
        refine s_icmp_ne F 88 dX3_settleFirst_76 (by decide) (fun _ => ?_) (fun _ => ?_)
        · refine s_aload_n F dX3_settleFirst_88 rfl 1 rfl ?_
          have hw_10 := wf_ref F.2.2.2.2.2.2.1 hq 4 5 (.inr (0, 6)) rfl
          refine s_getr F ciX3 4 5 (.inr (0, 6)) hq (by decide) rfl rfl m196 dX3_settleFirst_89 ?_
          refine s_iload F dX3_settleFirst_92 6 rfl ?_
          refine s_dup2 F dX3_settleFirst_94 rfl rfl ?_
          refine s_iald F hw_10 dX3_settleFirst_95 ?_
          refine s_iload F dX3_settleFirst_96 0 rfl ?_
          refine s_iconst F (v := (-1)) dX3_settleFirst_98 (by decide) ?_
          refine s_ixor F dX3_settleFirst_99 ?_
          refine s_iand F dX3_settleFirst_100 ?_
          refine s_iast F hw_10 dX3_settleFirst_101 ?_
          refine s_letH (fun h_11 => ?_)
          refine s_iincv F dX3_settleFirst_102 6 rfl (by decide) (c := 1) (by decide) (fun v_12 => ?_)
          refine s_lv (lv' := [(6, .int v_12), (7, .int v_2), (0, .ref (gad g q)), (1, .int x1), (2, .int x2), (4, .int x4), (5, .int x5)]) rfl ?_
          refine s_goto F 13 dX3_settleFirst_105 (by decide) ?_
          exact s_sub [2, 3, 4, 5, 6, 0] rfl (ih x1 x2 x4 x5 v_12 h_11)
        · refine s_bipush F (v := 6) dX3_settleFirst_79 (by decide) ?_
          refine s_iload F dX3_settleFirst_81 5 rfl ?_
          refine s_imul F dX3_settleFirst_83 ?_
          refine s_iload F dX3_settleFirst_84 6 rfl ?_
          refine s_iadd F dX3_settleFirst_86 ?_
          exact s_iret F dX3_settleFirst_87
      · refine s_goto F 102 dX3_settleFirst_51 (by decide) ?_
        refine s_iincv F dX3_settleFirst_102 6 rfl (by decide) (c := 1) (by decide) (fun v_13 => ?_)
        refine s_lv (lv' := [(6, .int v_13), (7, .int v_2), (0, .ref (gad g q)), (1, .int x1), (2, .int x2), (4, .int x4), (5, .int x5)]) rfl ?_
        refine s_goto F 13 dX3_settleFirst_105 (by decide) ?_
        exact s_sub [2, 3, 4, 5, 6, 0] rfl (ih x1 x2 x4 x5 v_13 h_3)
noncomputable def f_X3_settleFirst_3 (q : Nat) : Nat → Int32 → Int32 → Int32 → Int32 → AH → Option (Int32 × AH)
  | 0, _, _, _, _, _ => none
  | n + 1, x1, x2, x4, x5, h => if x4 < x5 then (some ((-1000000), h)) else (f_X3_settleFirst_13 q (f_X3_settleFirst_3 q n) fu x1 x2 x4 x5 0 h)
set_option maxRecDepth 20000 in
set_option maxHeartbeats 4000000 in
theorem t_X3_settleFirst_3 {z : MC} {g : GC} {A : Nat → Prop} (F : Fx z cX3_settleFirst 8 RX3 (some .int) 15 g A) {q : Nat} (hq : (gL g)[q]? = some (.inl 3)) : ∀ (n : Nat) (x1 : Int32) (x2 : Int32) (x4 : Int32) (x5 : Int32) (h : AH), Snd z 8 g A (QF z g A mkI) 3 [(0, .ref (gad g q)), (1, .int x1), (2, .int x2), (4, .int x4), (5, .int x5)] [] h (f_X3_settleFirst_3 q n x1 x2 x4 x5 h) := by
  intro n
  induction n with
  | zero => intros; exact s_none
  | succ n ih =>
    intro x1 x2 x4 x5 h
    unfold f_X3_settleFirst_3
    refine s_iload F dX3_settleFirst_3 4 rfl ?_
    refine s_iload F dX3_settleFirst_5 3 rfl ?_
    refine s_icmp_gt F 114 dX3_settleFirst_7 (by decide) (fun _ => ?_) (fun _ => ?_)
    · refine s_ldc F (v := (-1000000)) dX3_settleFirst_114 m747 ?_
      exact s_iret F dX3_settleFirst_116
    · refine s_iconst F (v := 0) dX3_settleFirst_10 (by decide) ?_
      refine s_istore F (lv' := [(6, .int 0), (0, .ref (gad g q)), (1, .int x1), (2, .int x2), (4, .int x4), (5, .int x5)]) dX3_settleFirst_11 (by decide) rfl ?_
      exact s_sub [1, 2, 3, 4, 5, 0] rfl (t_X3_settleFirst_13 F hq (f_X3_settleFirst_3 q n) ih fu x1 x2 x4 x5 0 h)
noncomputable def f_X3_settleFirst (q : Nat) (x1 : Int32) (x2 : Int32) (x3 : Int32) (x4 : Int32) (h : AH) : Option (Int32 × AH) := f_X3_settleFirst_3 q fu x1 x2 x4 x3 h
set_option maxRecDepth 20000 in
set_option maxHeartbeats 4000000 in
theorem ct_X3_settleFirst (l : Launch) (g : GC) {q : Nat} (hq : (gL g)[q]? = some (.inl 3)) (x1 : Int32) (x2 : Int32) (x3 : Int32) (x4 : Int32) : Ct l yX3_settleFirst cX3_settleFirst 8 (some .int) 15 [.ref (gad g q), .int x1, .int x2, .int x3, .int x4] g mkI (fun h => f_X3_settleFirst q x1 x2 x3 x4 h) := by
  refine Ct.of (by decide +kernel) (Nat.le_of_ble_eq_true rfl) (fun z A h _ F => ?_)
  show Snd z 8 g A (QF z g A mkI) 0 [(0, .ref (gad g q)), (1, .int x1), (2, .int x2), (3, .int x3), (4, .int x4)] [] h (f_X3_settleFirst q x1 x2 x3 x4 h)
  unfold f_X3_settleFirst
  refine s_iload_n F dX3_settleFirst_0 rfl 3 rfl ?_
  refine s_istore F (lv' := [(5, .int x3), (0, .ref (gad g q)), (1, .int x1), (2, .int x2), (3, .int x3), (4, .int x4)]) dX3_settleFirst_1 (by decide) rfl ?_
  exact s_sub [1, 2, 3, 5, 0] rfl (t_X3_settleFirst_3 F hq fu x1 x2 x4 x3 h)
theorem dX3_whenGoes_0 : decode cX3_whenGoes 0 = .ok (.aload_n 0, 1) := by decide +kernel
theorem dX3_whenGoes_1 : decode cX3_whenGoes 1 = .ok (.aload_n 1, 1) := by decide +kernel
theorem dX3_whenGoes_2 : decode cX3_whenGoes 2 = .ok (.aload_n 1, 1) := by decide +kernel
theorem dX3_whenGoes_3 : decode cX3_whenGoes 3 = .ok (.iload 4, 2) := by decide +kernel
theorem dX3_whenGoes_5 : decode cX3_whenGoes 5 = .ok (.invokevirtual 40, 3) := by decide +kernel
theorem dX3_whenGoes_8 : decode cX3_whenGoes 8 = .ok (.iload_n 2, 1) := by decide +kernel
theorem dX3_whenGoes_9 : decode cX3_whenGoes 9 = .ok (.iload_n 3, 1) := by decide +kernel
theorem dX3_whenGoes_10 : decode cX3_whenGoes 10 = .ok (.invokevirtual 36, 3) := by decide +kernel
theorem dX3_whenGoes_13 : decode cX3_whenGoes 13 = .ok (.istore 5, 2) := by decide +kernel
theorem dX3_whenGoes_15 : decode cX3_whenGoes 15 = .ok (.ldc 46, 2) := by decide +kernel
theorem dX3_whenGoes_17 : decode cX3_whenGoes 17 = .ok (.istore 6, 2) := by decide +kernel
theorem dX3_whenGoes_19 : decode cX3_whenGoes 19 = .ok (.iconst 0, 1) := by decide +kernel
theorem dX3_whenGoes_20 : decode cX3_whenGoes 20 = .ok (.istore 7, 2) := by decide +kernel
theorem dX3_whenGoes_22 : decode cX3_whenGoes 22 = .ok (.iload 7, 2) := by decide +kernel
theorem dX3_whenGoes_24 : decode cX3_whenGoes 24 = .ok (.iload 4, 2) := by decide +kernel
theorem dX3_whenGoes_26 : decode cX3_whenGoes 26 = .ok (.if_icmp .gt 38, 3) := by decide +kernel
theorem dX3_whenGoes_29 : decode cX3_whenGoes 29 = .ok (.aload_n 0, 1) := by decide +kernel
theorem dX3_whenGoes_30 : decode cX3_whenGoes 30 = .ok (.iload 7, 2) := by decide +kernel
theorem dX3_whenGoes_32 : decode cX3_whenGoes 32 = .ok (.iload 5, 2) := by decide +kernel
theorem dX3_whenGoes_34 : decode cX3_whenGoes 34 = .ok (.iload_n 2, 1) := by decide +kernel
theorem dX3_whenGoes_35 : decode cX3_whenGoes 35 = .ok (.iload_n 3, 1) := by decide +kernel
theorem dX3_whenGoes_36 : decode cX3_whenGoes 36 = .ok (.invokevirtual 47, 3) := by decide +kernel
theorem dX3_whenGoes_39 : decode cX3_whenGoes 39 = .ok (.istore 6, 2) := by decide +kernel
theorem dX3_whenGoes_41 : decode cX3_whenGoes 41 = .ok (.iload 5, 2) := by decide +kernel
theorem dX3_whenGoes_43 : decode cX3_whenGoes 43 = .ok (.iload 6, 2) := by decide +kernel
theorem dX3_whenGoes_45 : decode cX3_whenGoes 45 = .ok (.ldc 46, 2) := by decide +kernel
theorem dX3_whenGoes_47 : decode cX3_whenGoes 47 = .ok (.if_icmp .ne 7, 3) := by decide +kernel
theorem dX3_whenGoes_50 : decode cX3_whenGoes 50 = .ok (.iconst 0, 1) := by decide +kernel
theorem dX3_whenGoes_51 : decode cX3_whenGoes 51 = .ok (.goto 4, 3) := by decide +kernel
theorem dX3_whenGoes_54 : decode cX3_whenGoes 54 = .ok (.iconst 1, 1) := by decide +kernel
theorem dX3_whenGoes_55 : decode cX3_whenGoes 55 = .ok (.isub, 1) := by decide +kernel
theorem dX3_whenGoes_56 : decode cX3_whenGoes 56 = .ok (.istore 5, 2) := by decide +kernel
theorem dX3_whenGoes_58 : decode cX3_whenGoes 58 = .ok (.iinc 7 1, 3) := by decide +kernel
theorem dX3_whenGoes_61 : decode cX3_whenGoes 61 = .ok (.goto (-39), 3) := by decide +kernel
theorem dX3_whenGoes_64 : decode cX3_whenGoes 64 = .ok (.iload 6, 2) := by decide +kernel
theorem dX3_whenGoes_66 : decode cX3_whenGoes 66 = .ok (.ireturn, 1) := by decide +kernel
theorem yv_X3_whenGoes : YV yX3_whenGoes cX3_whenGoes 8 (some .int) 4 := ⟨m744, m745, m7, m746, ⟨by decide +kernel, by decide +kernel, by decide +kernel⟩, by decide⟩
noncomputable def f_X3_whenGoes_22 (q r1 : Nat) : Nat → Int32 → Int32 → Int32 → Int32 → Int32 → Int32 → AH → Option (Int32 × AH)
  | 0, _, _, _, _, _, _, _ => none
  | n + 1, x2, x3, x4, x5, x6, x7, h => if x4 < x7 then (some (x6, h)) else (bd (f_X3_settleFirst q x7 x5 x2 x3 h) (fun v_2 h_1 => if v_2 = (-1000000) then (lt ((x5 - 0)) (fun v_5 => lt (x7 + 1) (fun v_6 => (f_X3_whenGoes_22 q r1 n) x2 x3 x4 v_5 v_2 v_6 h_1))) else (lt ((x5 - 1)) (fun v_3 => lt (x7 + 1) (fun v_4 => (f_X3_whenGoes_22 q r1 n) x2 x3 x4 v_3 v_2 v_4 h_1)))))
set_option maxRecDepth 20000 in
set_option maxHeartbeats 4000000 in
theorem t_X3_whenGoes_22 {z : MC} {g : GC} {A : Nat → Prop} (F : Fx z cX3_whenGoes 8 RX3 (some .int) 16 g A) {q : Nat} (hq : (gL g)[q]? = some (.inl 3)) {r1 : Nat} (hr1 : (gL g)[r1]? = some (.inl 2)) : ∀ (n : Nat) (x2 : Int32) (x3 : Int32) (x4 : Int32) (x5 : Int32) (x6 : Int32) (x7 : Int32) (h : AH), Snd z 8 g A (QF z g A mkI) 22 [(0, .ref (gad g q)), (2, .int x2), (3, .int x3), (4, .int x4), (5, .int x5), (6, .int x6), (7, .int x7)] [] h (f_X3_whenGoes_22 q r1 n x2 x3 x4 x5 x6 x7 h) := by
  intro n
  induction n with
  | zero => intros; exact s_none
  | succ n ih =>
    intro x2 x3 x4 x5 x6 x7 h
    unfold f_X3_whenGoes_22
    refine s_iload F dX3_whenGoes_22 6 rfl ?_
    refine s_iload F dX3_whenGoes_24 3 rfl ?_
    refine s_icmp_gt F 64 dX3_whenGoes_26 (by decide) (fun _ => ?_) (fun _ => ?_)
    · refine s_iload F dX3_whenGoes_64 5 rfl ?_
      exact s_iret F dX3_whenGoes_66
    · refine s_aload_n F dX3_whenGoes_29 rfl 0 rfl ?_
      refine s_iload F dX3_whenGoes_30 6 rfl ?_
      refine s_iload F dX3_whenGoes_32 4 rfl ?_
      refine s_iload_n F dX3_whenGoes_34 rfl 1 rfl ?_
      refine s_iload_n F dX3_whenGoes_35 rfl 2 rfl ?_
      refine s_callVi (f := fun hh => f_X3_settleFirst q x7 x5 x2 x3 hh) (As := [.int x7, .int x5, .int x2, .int x3]) F yv_X3_settleFirst (ct_X3_settleFirst z.2.1 g hq x7 x5 x2 x3) (by decide) m748 hq rfl rfl rfl (Nat.le_of_ble_eq_true rfl) dX3_whenGoes_36 (fun v_2 h_1 e_v_2 => ?_)
      refine s_istore F (lv' := [(6, .int v_2), (0, .ref (gad g q)), (2, .int x2), (3, .int x3), (4, .int x4), (5, .int x5), (7, .int x7)]) dX3_whenGoes_39 (by decide) rfl ?_
      refine s_iload F dX3_whenGoes_41 5 rfl ?_
      refine s_iload F dX3_whenGoes_43 0 rfl ?_
      refine s_ldc F (v := (-1000000)) dX3_whenGoes_45 m747 ?_
      refine s_icmp_ne F 54 dX3_whenGoes_47 (by decide) (fun _ => ?_) (fun _ => ?_)
      · refine s_iconst F (v := 1) dX3_whenGoes_54 (by decide) ?_
        refine s_isub F dX3_whenGoes_55 ?_
        refine s_leti (fun v_3 => ?_)
        refine s_istore F (lv' := [(5, .int v_3), (6, .int v_2), (0, .ref (gad g q)), (2, .int x2), (3, .int x3), (4, .int x4), (7, .int x7)]) dX3_whenGoes_56 (by decide) rfl ?_
        refine s_iincv F dX3_whenGoes_58 6 rfl (by decide) (c := 1) (by decide) (fun v_4 => ?_)
        refine s_lv (lv' := [(7, .int v_4), (5, .int v_3), (6, .int v_2), (0, .ref (gad g q)), (2, .int x2), (3, .int x3), (4, .int x4)]) rfl ?_
        refine s_goto F 22 dX3_whenGoes_61 (by decide) ?_
        exact s_sub [3, 4, 5, 6, 1, 2, 0] rfl (ih x2 x3 x4 v_3 v_2 v_4 h_1)
      · refine s_iconst F (v := 0) dX3_whenGoes_50 (by decide) ?_
        refine s_goto F 55 dX3_whenGoes_51 (by decide) ?_
        refine s_isub F dX3_whenGoes_55 ?_
        refine s_leti (fun v_5 => ?_)
        refine s_istore F (lv' := [(5, .int v_5), (6, .int v_2), (0, .ref (gad g q)), (2, .int x2), (3, .int x3), (4, .int x4), (7, .int x7)]) dX3_whenGoes_56 (by decide) rfl ?_
        refine s_iincv F dX3_whenGoes_58 6 rfl (by decide) (c := 1) (by decide) (fun v_6 => ?_)
        refine s_lv (lv' := [(7, .int v_6), (5, .int v_5), (6, .int v_2), (0, .ref (gad g q)), (2, .int x2), (3, .int x3), (4, .int x4)]) rfl ?_
        refine s_goto F 22 dX3_whenGoes_61 (by decide) ?_
        exact s_sub [3, 4, 5, 6, 1, 2, 0] rfl (ih x2 x3 x4 v_5 v_2 v_6 h_1)
noncomputable def f_X3_whenGoes (q : Nat) (r1 : Nat) (x2 : Int32) (x3 : Int32) (x4 : Int32) (h : AH) : Option (Int32 × AH) := bd (f_X2_sideOf r1 x4 h) (fun v_2 h_1 => bd (f_X3_greatestOf q r1 v_2 x2 x3 h_1) (fun v_4 h_3 => f_X3_whenGoes_22 q r1 fu x2 x3 x4 v_4 (-1000000) 0 h_3))
set_option maxRecDepth 20000 in
set_option maxHeartbeats 4000000 in
theorem ct_X3_whenGoes (l : Launch) (g : GC) {q : Nat} (hq : (gL g)[q]? = some (.inl 3)) {r1 : Nat} (hr1 : (gL g)[r1]? = some (.inl 2)) (x2 : Int32) (x3 : Int32) (x4 : Int32) : Ct l yX3_whenGoes cX3_whenGoes 8 (some .int) 16 [.ref (gad g q), .ref (gad g r1), .int x2, .int x3, .int x4] g mkI (fun h => f_X3_whenGoes q r1 x2 x3 x4 h) := by
  refine Ct.of (by decide +kernel) (Nat.le_of_ble_eq_true rfl) (fun z A h _ F => ?_)
  show Snd z 8 g A (QF z g A mkI) 0 [(0, .ref (gad g q)), (1, .ref (gad g r1)), (2, .int x2), (3, .int x3), (4, .int x4)] [] h (f_X3_whenGoes q r1 x2 x3 x4 h)
  unfold f_X3_whenGoes
  refine s_aload_n F dX3_whenGoes_0 rfl 0 rfl ?_
  refine s_aload_n F dX3_whenGoes_1 rfl 1 rfl ?_
  refine s_aload_n F dX3_whenGoes_2 rfl 1 rfl ?_
  refine s_iload F dX3_whenGoes_3 4 rfl ?_
  refine s_callVi (f := fun hh => f_X2_sideOf r1 x4 hh) (As := [.int x4]) F yv_X2_sideOf (ct_X2_sideOf z.2.1 g hr1 x4) (by decide) m717 hr1 rfl rfl rfl (Nat.le_of_ble_eq_true rfl) dX3_whenGoes_5 (fun v_2 h_1 e_v_2 => ?_)
  refine s_iload_n F dX3_whenGoes_8 rfl 2 rfl ?_
  refine s_iload_n F dX3_whenGoes_9 rfl 3 rfl ?_
  refine s_callVi (f := fun hh => f_X3_greatestOf q r1 v_2 x2 x3 hh) (As := [.ref (gad g r1), .int v_2, .int x2, .int x3]) F yv_X3_greatestOf (ct_X3_greatestOf z.2.1 g hq hr1 v_2 x2 x3) (by decide) m706 hq rfl rfl rfl (Nat.le_of_ble_eq_true rfl) dX3_whenGoes_10 (fun v_4 h_3 e_v_4 => ?_)
  refine s_istore F (lv' := [(5, .int v_4), (0, .ref (gad g q)), (1, .ref (gad g r1)), (2, .int x2), (3, .int x3), (4, .int x4)]) dX3_whenGoes_13 (by decide) rfl ?_
  refine s_ldc F (v := (-1000000)) dX3_whenGoes_15 m747 ?_
  refine s_istore F (lv' := [(6, .int (-1000000)), (5, .int v_4), (0, .ref (gad g q)), (1, .ref (gad g r1)), (2, .int x2), (3, .int x3), (4, .int x4)]) dX3_whenGoes_17 (by decide) rfl ?_
  refine s_iconst F (v := 0) dX3_whenGoes_19 (by decide) ?_
  refine s_istore F (lv' := [(7, .int 0), (6, .int (-1000000)), (5, .int v_4), (0, .ref (gad g q)), (1, .ref (gad g r1)), (2, .int x2), (3, .int x3), (4, .int x4)]) dX3_whenGoes_20 (by decide) rfl ?_
  exact s_sub [3, 5, 6, 7, 2, 1, 0] rfl (t_X3_whenGoes_22 F hq hr1 fu x2 x3 x4 v_4 (-1000000) 0 h_3)
theorem dX3_countHopeful_0 : decode cX3_countHopeful 0 = .ok (.iconst 0, 1) := by decide +kernel
theorem dX3_countHopeful_1 : decode cX3_countHopeful 1 = .ok (.istore_n 1, 1) := by decide +kernel
theorem dX3_countHopeful_2 : decode cX3_countHopeful 2 = .ok (.iconst 0, 1) := by decide +kernel
theorem dX3_countHopeful_3 : decode cX3_countHopeful 3 = .ok (.istore_n 2, 1) := by decide +kernel
theorem dX3_countHopeful_4 : decode cX3_countHopeful 4 = .ok (.iload_n 2, 1) := by decide +kernel
theorem dX3_countHopeful_5 : decode cX3_countHopeful 5 = .ok (.aload_n 0, 1) := by decide +kernel
theorem dX3_countHopeful_6 : decode cX3_countHopeful 6 = .ok (.getfield 79, 3) := by decide +kernel
theorem dX3_countHopeful_9 : decode cX3_countHopeful 9 = .ok (.if_icmp .ge 20, 3) := by decide +kernel
theorem dX3_countHopeful_12 : decode cX3_countHopeful 12 = .ok (.iload_n 1, 1) := by decide +kernel
theorem dX3_countHopeful_13 : decode cX3_countHopeful 13 = .ok (.iconst 1, 1) := by decide +kernel
theorem dX3_countHopeful_14 : decode cX3_countHopeful 14 = .ok (.aload_n 0, 1) := by decide +kernel
theorem dX3_countHopeful_15 : decode cX3_countHopeful 15 = .ok (.getfield 18, 3) := by decide +kernel
theorem dX3_countHopeful_18 : decode cX3_countHopeful 18 = .ok (.iload_n 2, 1) := by decide +kernel
theorem dX3_countHopeful_19 : decode cX3_countHopeful 19 = .ok (.iaload, 1) := by decide +kernel
theorem dX3_countHopeful_20 : decode cX3_countHopeful 20 = .ok (.ishl, 1) := by decide +kernel
theorem dX3_countHopeful_21 : decode cX3_countHopeful 21 = .ok (.ior, 1) := by decide +kernel
theorem dX3_countHopeful_22 : decode cX3_countHopeful 22 = .ok (.istore_n 1, 1) := by decide +kernel
theorem dX3_countHopeful_23 : decode cX3_countHopeful 23 = .ok (.iinc 2 1, 3) := by decide +kernel
theorem dX3_countHopeful_26 : decode cX3_countHopeful 26 = .ok (.goto (-22), 3) := by decide +kernel
theorem dX3_countHopeful_29 : decode cX3_countHopeful 29 = .ok (.iconst 0, 1) := by decide +kernel
theorem dX3_countHopeful_30 : decode cX3_countHopeful 30 = .ok (.istore_n 2, 1) := by decide +kernel
theorem dX3_countHopeful_31 : decode cX3_countHopeful 31 = .ok (.iconst 0, 1) := by decide +kernel
theorem dX3_countHopeful_32 : decode cX3_countHopeful 32 = .ok (.istore_n 3, 1) := by decide +kernel
theorem dX3_countHopeful_33 : decode cX3_countHopeful 33 = .ok (.iload_n 3, 1) := by decide +kernel
theorem dX3_countHopeful_34 : decode cX3_countHopeful 34 = .ok (.aload_n 0, 1) := by decide +kernel
theorem dX3_countHopeful_35 : decode cX3_countHopeful 35 = .ok (.getfield 83, 3) := by decide +kernel
theorem dX3_countHopeful_38 : decode cX3_countHopeful 38 = .ok (.if_icmp .ge 71, 3) := by decide +kernel
theorem dX3_countHopeful_41 : decode cX3_countHopeful 41 = .ok (.iconst 0, 1) := by decide +kernel
theorem dX3_countHopeful_42 : decode cX3_countHopeful 42 = .ok (.istore 4, 2) := by decide +kernel
theorem dX3_countHopeful_44 : decode cX3_countHopeful 44 = .ok (.iconst 0, 1) := by decide +kernel
theorem dX3_countHopeful_45 : decode cX3_countHopeful 45 = .ok (.istore 5, 2) := by decide +kernel
theorem dX3_countHopeful_47 : decode cX3_countHopeful 47 = .ok (.iload 5, 2) := by decide +kernel
theorem dX3_countHopeful_49 : decode cX3_countHopeful 49 = .ok (.aload_n 0, 1) := by decide +kernel
theorem dX3_countHopeful_50 : decode cX3_countHopeful 50 = .ok (.getfield 79, 3) := by decide +kernel
theorem dX3_countHopeful_53 : decode cX3_countHopeful 53 = .ok (.if_icmp .ge 26, 3) := by decide +kernel
theorem dX3_countHopeful_56 : decode cX3_countHopeful 56 = .ok (.iload 4, 2) := by decide +kernel
theorem dX3_countHopeful_58 : decode cX3_countHopeful 58 = .ok (.aload_n 0, 1) := by decide +kernel
theorem dX3_countHopeful_59 : decode cX3_countHopeful 59 = .ok (.getfield 9, 3) := by decide +kernel
theorem dX3_countHopeful_62 : decode cX3_countHopeful 62 = .ok (.iload_n 3, 1) := by decide +kernel
theorem dX3_countHopeful_63 : decode cX3_countHopeful 63 = .ok (.bipush 6, 2) := by decide +kernel
theorem dX3_countHopeful_65 : decode cX3_countHopeful 65 = .ok (.imul, 1) := by decide +kernel
theorem dX3_countHopeful_66 : decode cX3_countHopeful 66 = .ok (.iload 5, 2) := by decide +kernel
theorem dX3_countHopeful_68 : decode cX3_countHopeful 68 = .ok (.iadd, 1) := by decide +kernel
theorem dX3_countHopeful_69 : decode cX3_countHopeful 69 = .ok (.iaload, 1) := by decide +kernel
theorem dX3_countHopeful_70 : decode cX3_countHopeful 70 = .ok (.ior, 1) := by decide +kernel
theorem dX3_countHopeful_71 : decode cX3_countHopeful 71 = .ok (.istore 4, 2) := by decide +kernel
theorem dX3_countHopeful_73 : decode cX3_countHopeful 73 = .ok (.iinc 5 1, 3) := by decide +kernel
theorem dX3_countHopeful_76 : decode cX3_countHopeful 76 = .ok (.goto (-29), 3) := by decide +kernel
theorem dX3_countHopeful_79 : decode cX3_countHopeful 79 = .ok (.iload_n 2, 1) := by decide +kernel
theorem dX3_countHopeful_80 : decode cX3_countHopeful 80 = .ok (.iload 4, 2) := by decide +kernel
theorem dX3_countHopeful_82 : decode cX3_countHopeful 82 = .ok (.ifCond .eq 18, 3) := by decide +kernel
theorem dX3_countHopeful_85 : decode cX3_countHopeful 85 = .ok (.aload_n 0, 1) := by decide +kernel
theorem dX3_countHopeful_86 : decode cX3_countHopeful 86 = .ok (.getfield 15, 3) := by decide +kernel
theorem dX3_countHopeful_89 : decode cX3_countHopeful 89 = .ok (.iload_n 3, 1) := by decide +kernel
theorem dX3_countHopeful_90 : decode cX3_countHopeful 90 = .ok (.iaload, 1) := by decide +kernel
theorem dX3_countHopeful_91 : decode cX3_countHopeful 91 = .ok (.iload_n 1, 1) := by decide +kernel
theorem dX3_countHopeful_92 : decode cX3_countHopeful 92 = .ok (.iand, 1) := by decide +kernel
theorem dX3_countHopeful_93 : decode cX3_countHopeful 93 = .ok (.ifCond .eq 7, 3) := by decide +kernel
theorem dX3_countHopeful_96 : decode cX3_countHopeful 96 = .ok (.iconst 1, 1) := by decide +kernel
theorem dX3_countHopeful_97 : decode cX3_countHopeful 97 = .ok (.goto 4, 3) := by decide +kernel
theorem dX3_countHopeful_100 : decode cX3_countHopeful 100 = .ok (.iconst 0, 1) := by decide +kernel
theorem dX3_countHopeful_101 : decode cX3_countHopeful 101 = .ok (.iadd, 1) := by decide +kernel
theorem dX3_countHopeful_102 : decode cX3_countHopeful 102 = .ok (.istore_n 2, 1) := by decide +kernel
theorem dX3_countHopeful_103 : decode cX3_countHopeful 103 = .ok (.iinc 3 1, 3) := by decide +kernel
theorem dX3_countHopeful_106 : decode cX3_countHopeful 106 = .ok (.goto (-73), 3) := by decide +kernel
theorem dX3_countHopeful_109 : decode cX3_countHopeful 109 = .ok (.iload_n 2, 1) := by decide +kernel
theorem dX3_countHopeful_110 : decode cX3_countHopeful 110 = .ok (.ireturn, 1) := by decide +kernel
theorem yv_X3_countHopeful : YV yX3_countHopeful cX3_countHopeful 6 (some .int) 0 := ⟨m762, ms20, m7, m763, ⟨by decide +kernel, by decide +kernel, by decide +kernel⟩, by decide⟩
noncomputable def f_X3_countHopeful_47 (q : Nat) (K33 : Int32 → Int32 → Int32 → AH → Option (Int32 × AH)) : Nat → Int32 → Int32 → Int32 → Int32 → Int32 → AH → Option (Int32 × AH)
  | 0, _, _, _, _, _, _ => none
  | n + 1, x1, x2, x3, x4, x5, h => if (h q 8) ≤ x5 then (if x4 = 0 then (lt ((x2 + 0)) (fun v_1 => lt (x3 + 1) (fun v_2 => K33 x1 v_1 v_2 h))) else (ck x3 6 (if ((h (q + 2) (x3 : Int32).toNatClampNeg) &&& x1) = 0 then (lt ((x2 + 0)) (fun v_4 => lt (x3 + 1) (fun v_5 => K33 x1 v_4 v_5 h))) else (lt ((x2 + 1)) (fun v_6 => lt (x3 + 1) (fun v_7 => K33 x1 v_6 v_7 h)))))) else (lt (((x3 * 6) + x5)) (fun v_9 => ck v_9 36 (lt ((x4 ||| (h (q + 1) (v_9 : Int32).toNatClampNeg))) (fun v_10 => lt (x5 + 1) (fun v_11 => (f_X3_countHopeful_47 q K33 n) x1 x2 x3 v_10 v_11 h)))))
set_option maxRecDepth 20000 in
set_option maxHeartbeats 4000000 in
theorem t_X3_countHopeful_47 {z : MC} {g : GC} {A : Nat → Prop} (F : Fx z cX3_countHopeful 6 RX3 (some .int) 1 g A) {q : Nat} (hq : (gL g)[q]? = some (.inl 3)) (K33 : Int32 → Int32 → Int32 → AH → Option (Int32 × AH)) (hK33 : ∀ (x1 : Int32) (x2 : Int32) (x3 : Int32) (h : AH), Snd z 6 g A (QF z g A mkI) 33 [(0, .ref (gad g q)), (1, .int x1), (2, .int x2), (3, .int x3)] [] h (K33 x1 x2 x3 h)) : ∀ (n : Nat) (x1 : Int32) (x2 : Int32) (x3 : Int32) (x4 : Int32) (x5 : Int32) (h : AH), Snd z 6 g A (QF z g A mkI) 47 [(0, .ref (gad g q)), (1, .int x1), (2, .int x2), (3, .int x3), (4, .int x4), (5, .int x5)] [] h (f_X3_countHopeful_47 q K33 n x1 x2 x3 x4 x5 h) := by
  intro n
  induction n with
  | zero => intros; exact s_none
  | succ n ih =>
    intro x1 x2 x3 x4 x5 h
    unfold f_X3_countHopeful_47
    refine s_iload F dX3_countHopeful_47 5 rfl ?_
    refine s_aload_n F dX3_countHopeful_49 rfl 0 rfl ?_
    refine s_geti F ciX3 8 hq (by decide) rfl rfl m200 dX3_countHopeful_50 ?_
    refine s_icmp_ge F 79 dX3_countHopeful_53 (by decide) (fun _ => ?_) (fun _ => ?_)
    · refine s_iload_n F dX3_countHopeful_79 rfl 2 rfl ?_
      refine s_iload F dX3_countHopeful_80 4 rfl ?_
      refine s_if_eq F 100 dX3_countHopeful_82 (by decide) (fun _ => ?_) (fun _ => ?_)
      · refine s_iconst F (v := 0) dX3_countHopeful_100 (by decide) ?_
        refine s_iadd F dX3_countHopeful_101 ?_
        refine s_leti (fun v_1 => ?_)
        refine s_istore_n F (lv' := [(2, .int v_1), (0, .ref (gad g q)), (1, .int x1), (3, .int x3), (4, .int x4), (5, .int x5)]) dX3_countHopeful_102 rfl (by decide) rfl ?_
        refine s_iincv F dX3_countHopeful_103 3 rfl (by decide) (c := 1) (by decide) (fun v_2 => ?_)
        refine s_lv (lv' := [(3, .int v_2), (2, .int v_1), (0, .ref (gad g q)), (1, .int x1), (4, .int x4), (5, .int x5)]) rfl ?_
        refine s_goto F 33 dX3_countHopeful_106 (by decide) ?_
        exact s_sub [2, 3, 1, 0] rfl (hK33 x1 v_1 v_2 h)
      · refine s_aload_n F dX3_countHopeful_85 rfl 0 rfl ?_
        have hw_3 := wf_ref F.2.2.2.2.2.2.1 hq 1 2 (.inr (0, 6)) rfl
        refine s_getr F ciX3 1 2 (.inr (0, 6)) hq (by decide) rfl rfl m193 dX3_countHopeful_86 ?_
        refine s_iload_n F dX3_countHopeful_89 rfl 3 rfl ?_
        refine s_iald F hw_3 dX3_countHopeful_90 ?_
        refine s_iload_n F dX3_countHopeful_91 rfl 1 rfl ?_
        refine s_iand F dX3_countHopeful_92 ?_
        refine s_if_eq F 100 dX3_countHopeful_93 (by decide) (fun _ => ?_) (fun _ => ?_)
        · refine s_iconst F (v := 0) dX3_countHopeful_100 (by decide) ?_
          refine s_iadd F dX3_countHopeful_101 ?_
          refine s_leti (fun v_4 => ?_)
          refine s_istore_n F (lv' := [(2, .int v_4), (0, .ref (gad g q)), (1, .int x1), (3, .int x3), (4, .int x4), (5, .int x5)]) dX3_countHopeful_102 rfl (by decide) rfl ?_
          refine s_iincv F dX3_countHopeful_103 3 rfl (by decide) (c := 1) (by decide) (fun v_5 => ?_)
          refine s_lv (lv' := [(3, .int v_5), (2, .int v_4), (0, .ref (gad g q)), (1, .int x1), (4, .int x4), (5, .int x5)]) rfl ?_
          refine s_goto F 33 dX3_countHopeful_106 (by decide) ?_
          exact s_sub [2, 3, 1, 0] rfl (hK33 x1 v_4 v_5 h)
        · refine s_iconst F (v := 1) dX3_countHopeful_96 (by decide) ?_
          refine s_goto F 101 dX3_countHopeful_97 (by decide) ?_
          refine s_iadd F dX3_countHopeful_101 ?_
          refine s_leti (fun v_6 => ?_)
          refine s_istore_n F (lv' := [(2, .int v_6), (0, .ref (gad g q)), (1, .int x1), (3, .int x3), (4, .int x4), (5, .int x5)]) dX3_countHopeful_102 rfl (by decide) rfl ?_
          refine s_iincv F dX3_countHopeful_103 3 rfl (by decide) (c := 1) (by decide) (fun v_7 => ?_)
          refine s_lv (lv' := [(3, .int v_7), (2, .int v_6), (0, .ref (gad g q)), (1, .int x1), (4, .int x4), (5, .int x5)]) rfl ?_
          refine s_goto F 33 dX3_countHopeful_106 (by decide) ?_
          exact s_sub [2, 3, 1, 0] rfl (hK33 x1 v_6 v_7 h)
    · refine s_iload F dX3_countHopeful_56 4 rfl ?_
      refine s_aload_n F dX3_countHopeful_58 rfl 0 rfl ?_
      have hw_8 := wf_ref F.2.2.2.2.2.2.1 hq 0 1 (.inr (0, 36)) rfl
      refine s_getr F ciX3 0 1 (.inr (0, 36)) hq (by decide) rfl rfl m192 dX3_countHopeful_59 ?_
      refine s_iload_n F dX3_countHopeful_62 rfl 3 rfl ?_
      refine s_bipush F (v := 6) dX3_countHopeful_63 (by decide) ?_
      refine s_imul F dX3_countHopeful_65 ?_
      refine s_iload F dX3_countHopeful_66 5 rfl ?_
      refine s_iadd F dX3_countHopeful_68 ?_
      refine s_leti (fun v_9 => ?_)
      refine s_iald F hw_8 dX3_countHopeful_69 ?_
      refine s_ior F dX3_countHopeful_70 ?_
      refine s_leti (fun v_10 => ?_)
      refine s_istore F (lv' := [(4, .int v_10), (0, .ref (gad g q)), (1, .int x1), (2, .int x2), (3, .int x3), (5, .int x5)]) dX3_countHopeful_71 (by decide) rfl ?_
      refine s_iincv F dX3_countHopeful_73 5 rfl (by decide) (c := 1) (by decide) (fun v_11 => ?_)
      refine s_lv (lv' := [(5, .int v_11), (4, .int v_10), (0, .ref (gad g q)), (1, .int x1), (2, .int x2), (3, .int x3)]) rfl ?_
      refine s_goto F 47 dX3_countHopeful_76 (by decide) ?_
      exact s_sub [2, 3, 4, 5, 1, 0] rfl (ih x1 x2 x3 v_10 v_11 h)
noncomputable def f_X3_countHopeful_33 (q : Nat) : Nat → Int32 → Int32 → Int32 → AH → Option (Int32 × AH)
  | 0, _, _, _, _ => none
  | n + 1, x1, x2, x3, h => if (h q 9) ≤ x3 then (some (x2, h)) else (f_X3_countHopeful_47 q (f_X3_countHopeful_33 q n) fu x1 x2 x3 0 0 h)
set_option maxRecDepth 20000 in
set_option maxHeartbeats 4000000 in
theorem t_X3_countHopeful_33 {z : MC} {g : GC} {A : Nat → Prop} (F : Fx z cX3_countHopeful 6 RX3 (some .int) 1 g A) {q : Nat} (hq : (gL g)[q]? = some (.inl 3)) : ∀ (n : Nat) (x1 : Int32) (x2 : Int32) (x3 : Int32) (h : AH), Snd z 6 g A (QF z g A mkI) 33 [(0, .ref (gad g q)), (1, .int x1), (2, .int x2), (3, .int x3)] [] h (f_X3_countHopeful_33 q n x1 x2 x3 h) := by
  intro n
  induction n with
  | zero => intros; exact s_none
  | succ n ih =>
    intro x1 x2 x3 h
    unfold f_X3_countHopeful_33
    refine s_iload_n F dX3_countHopeful_33 rfl 3 rfl ?_
    refine s_aload_n F dX3_countHopeful_34 rfl 0 rfl ?_
    refine s_geti F ciX3 9 hq (by decide) rfl rfl m201 dX3_countHopeful_35 ?_
    refine s_icmp_ge F 109 dX3_countHopeful_38 (by decide) (fun _ => ?_) (fun _ => ?_)
    · refine s_iload_n F dX3_countHopeful_109 rfl 2 rfl ?_
      exact s_iret F dX3_countHopeful_110
    · refine s_iconst F (v := 0) dX3_countHopeful_41 (by decide) ?_
      refine s_istore F (lv' := [(4, .int 0), (0, .ref (gad g q)), (1, .int x1), (2, .int x2), (3, .int x3)]) dX3_countHopeful_42 (by decide) rfl ?_
      refine s_iconst F (v := 0) dX3_countHopeful_44 (by decide) ?_
      refine s_istore F (lv' := [(5, .int 0), (4, .int 0), (0, .ref (gad g q)), (1, .int x1), (2, .int x2), (3, .int x3)]) dX3_countHopeful_45 (by decide) rfl ?_
      exact s_sub [2, 3, 4, 5, 1, 0] rfl (t_X3_countHopeful_47 F hq (f_X3_countHopeful_33 q n) ih fu x1 x2 x3 0 0 h)
noncomputable def f_X3_countHopeful_4 (q : Nat) : Nat → Int32 → Int32 → AH → Option (Int32 × AH)
  | 0, _, _, _ => none
  | n + 1, x1, x2, h => if (h q 8) ≤ x2 then (f_X3_countHopeful_33 q fu x1 0 0 h) else (ck x2 6 (lt ((x1 ||| (1 <<< ((h (q + 3) (x2 : Int32).toNatClampNeg) &&& 31)))) (fun v_2 => lt (x2 + 1) (fun v_3 => (f_X3_countHopeful_4 q n) v_2 v_3 h))))
set_option maxRecDepth 20000 in
set_option maxHeartbeats 4000000 in
theorem t_X3_countHopeful_4 {z : MC} {g : GC} {A : Nat → Prop} (F : Fx z cX3_countHopeful 6 RX3 (some .int) 1 g A) {q : Nat} (hq : (gL g)[q]? = some (.inl 3)) : ∀ (n : Nat) (x1 : Int32) (x2 : Int32) (h : AH), Snd z 6 g A (QF z g A mkI) 4 [(0, .ref (gad g q)), (1, .int x1), (2, .int x2)] [] h (f_X3_countHopeful_4 q n x1 x2 h) := by
  intro n
  induction n with
  | zero => intros; exact s_none
  | succ n ih =>
    intro x1 x2 h
    unfold f_X3_countHopeful_4
    refine s_iload_n F dX3_countHopeful_4 rfl 2 rfl ?_
    refine s_aload_n F dX3_countHopeful_5 rfl 0 rfl ?_
    refine s_geti F ciX3 8 hq (by decide) rfl rfl m200 dX3_countHopeful_6 ?_
    refine s_icmp_ge F 29 dX3_countHopeful_9 (by decide) (fun _ => ?_) (fun _ => ?_)
    · refine s_iconst F (v := 0) dX3_countHopeful_29 (by decide) ?_
      refine s_istore_n F (lv' := [(2, .int 0), (0, .ref (gad g q)), (1, .int x1)]) dX3_countHopeful_30 rfl (by decide) rfl ?_
      refine s_iconst F (v := 0) dX3_countHopeful_31 (by decide) ?_
      refine s_istore_n F (lv' := [(3, .int 0), (2, .int 0), (0, .ref (gad g q)), (1, .int x1)]) dX3_countHopeful_32 rfl (by decide) rfl ?_
      exact s_sub [2, 3, 1, 0] rfl (t_X3_countHopeful_33 F hq fu x1 0 0 h)
    · refine s_iload_n F dX3_countHopeful_12 rfl 1 rfl ?_
      refine s_iconst F (v := 1) dX3_countHopeful_13 (by decide) ?_
      refine s_aload_n F dX3_countHopeful_14 rfl 0 rfl ?_
      have hw_1 := wf_ref F.2.2.2.2.2.2.1 hq 2 3 (.inr (0, 6)) rfl
      refine s_getr F ciX3 2 3 (.inr (0, 6)) hq (by decide) rfl rfl m194 dX3_countHopeful_15 ?_
      refine s_iload_n F dX3_countHopeful_18 rfl 2 rfl ?_
      refine s_iald F hw_1 dX3_countHopeful_19 ?_
      refine s_ishl F dX3_countHopeful_20 ?_
      refine s_ior F dX3_countHopeful_21 ?_
      refine s_leti (fun v_2 => ?_)
      refine s_istore_n F (lv' := [(1, .int v_2), (0, .ref (gad g q)), (2, .int x2)]) dX3_countHopeful_22 rfl (by decide) rfl ?_
      refine s_iincv F dX3_countHopeful_23 2 rfl (by decide) (c := 1) (by decide) (fun v_3 => ?_)
      refine s_lv (lv' := [(2, .int v_3), (1, .int v_2), (0, .ref (gad g q))]) rfl ?_
      refine s_goto F 4 dX3_countHopeful_26 (by decide) ?_
      exact s_sub [2, 1, 0] rfl (ih v_2 v_3 h)
noncomputable def f_X3_countHopeful (q : Nat) (h : AH) : Option (Int32 × AH) := f_X3_countHopeful_4 q fu 0 0 h
set_option maxRecDepth 20000 in
set_option maxHeartbeats 4000000 in
theorem ct_X3_countHopeful (l : Launch) (g : GC) {q : Nat} (hq : (gL g)[q]? = some (.inl 3)) : Ct l yX3_countHopeful cX3_countHopeful 6 (some .int) 1 [.ref (gad g q)] g mkI (fun h => f_X3_countHopeful q h) := by
  refine Ct.of (by decide +kernel) (Nat.le_of_ble_eq_true rfl) (fun z A h _ F => ?_)
  show Snd z 6 g A (QF z g A mkI) 0 [(0, .ref (gad g q))] [] h (f_X3_countHopeful q h)
  unfold f_X3_countHopeful
  refine s_iconst F (v := 0) dX3_countHopeful_0 (by decide) ?_
  refine s_istore_n F (lv' := [(1, .int 0), (0, .ref (gad g q))]) dX3_countHopeful_1 rfl (by decide) rfl ?_
  refine s_iconst F (v := 0) dX3_countHopeful_2 (by decide) ?_
  refine s_istore_n F (lv' := [(2, .int 0), (1, .int 0), (0, .ref (gad g q))]) dX3_countHopeful_3 rfl (by decide) rfl ?_
  exact s_sub [2, 1, 0] rfl (t_X3_countHopeful_4 F hq fu 0 0 h)
theorem dX3_swapCharters_0 : decode cX3_swapCharters 0 = .ok (.aload_n 0, 1) := by decide +kernel
theorem dX3_swapCharters_1 : decode cX3_swapCharters 1 = .ok (.getfield 18, 3) := by decide +kernel
theorem dX3_swapCharters_4 : decode cX3_swapCharters 4 = .ok (.iload_n 1, 1) := by decide +kernel
theorem dX3_swapCharters_5 : decode cX3_swapCharters 5 = .ok (.iaload, 1) := by decide +kernel
theorem dX3_swapCharters_6 : decode cX3_swapCharters 6 = .ok (.istore_n 3, 1) := by decide +kernel
theorem dX3_swapCharters_7 : decode cX3_swapCharters 7 = .ok (.aload_n 0, 1) := by decide +kernel
theorem dX3_swapCharters_8 : decode cX3_swapCharters 8 = .ok (.getfield 18, 3) := by decide +kernel
theorem dX3_swapCharters_11 : decode cX3_swapCharters 11 = .ok (.iload_n 1, 1) := by decide +kernel
theorem dX3_swapCharters_12 : decode cX3_swapCharters 12 = .ok (.aload_n 0, 1) := by decide +kernel
theorem dX3_swapCharters_13 : decode cX3_swapCharters 13 = .ok (.getfield 18, 3) := by decide +kernel
theorem dX3_swapCharters_16 : decode cX3_swapCharters 16 = .ok (.iload_n 2, 1) := by decide +kernel
theorem dX3_swapCharters_17 : decode cX3_swapCharters 17 = .ok (.iaload, 1) := by decide +kernel
theorem dX3_swapCharters_18 : decode cX3_swapCharters 18 = .ok (.iastore, 1) := by decide +kernel
theorem dX3_swapCharters_19 : decode cX3_swapCharters 19 = .ok (.aload_n 0, 1) := by decide +kernel
theorem dX3_swapCharters_20 : decode cX3_swapCharters 20 = .ok (.getfield 18, 3) := by decide +kernel
theorem dX3_swapCharters_23 : decode cX3_swapCharters 23 = .ok (.iload_n 2, 1) := by decide +kernel
theorem dX3_swapCharters_24 : decode cX3_swapCharters 24 = .ok (.iload_n 3, 1) := by decide +kernel
theorem dX3_swapCharters_25 : decode cX3_swapCharters 25 = .ok (.iastore, 1) := by decide +kernel
theorem dX3_swapCharters_26 : decode cX3_swapCharters 26 = .ok (.return_, 1) := by decide +kernel
theorem yv_X3_swapCharters : YV yX3_swapCharters cX3_swapCharters 4 none 2 := ⟨m770, ms22, m7, m771, ⟨by decide +kernel, by decide +kernel, by decide +kernel⟩, by decide⟩
noncomputable def f_X3_swapCharters (q : Nat) (x1 : Int32) (x2 : Int32) (h : AH) : Option (Unit × AH) := ck x1 6 (lt (h (q + 3) (x1 : Int32).toNatClampNeg) (fun v_2 => ck x2 6 (ck x1 6 (lt (hset h (q + 3) (x1 : Int32).toNatClampNeg (h (q + 3) (x2 : Int32).toNatClampNeg)) (fun h_5 => ck x2 6 (lt (hset h_5 (q + 3) (x2 : Int32).toNatClampNeg v_2) (fun h_7 => some ((), h_7))))))))
set_option maxRecDepth 20000 in
set_option maxHeartbeats 4000000 in
theorem ct_X3_swapCharters (l : Launch) (g : GC) {q : Nat} (hq : (gL g)[q]? = some (.inl 3)) (x1 : Int32) (x2 : Int32) : Ct l yX3_swapCharters cX3_swapCharters 4 none 1 [.ref (gad g q), .int x1, .int x2] g mkU (fun h => f_X3_swapCharters q x1 x2 h) := by
  refine Ct.of (by decide +kernel) (Nat.le_of_ble_eq_true rfl) (fun z A h _ F => ?_)
  show Snd z 4 g A (QF z g A mkU) 0 [(0, .ref (gad g q)), (1, .int x1), (2, .int x2)] [] h (f_X3_swapCharters q x1 x2 h)
  unfold f_X3_swapCharters
  refine s_aload_n F dX3_swapCharters_0 rfl 0 rfl ?_
  have hw_1 := wf_ref F.2.2.2.2.2.2.1 hq 2 3 (.inr (0, 6)) rfl
  refine s_getr F ciX3 2 3 (.inr (0, 6)) hq (by decide) rfl rfl m194 dX3_swapCharters_1 ?_
  refine s_iload_n F dX3_swapCharters_4 rfl 1 rfl ?_
  refine s_iald F hw_1 dX3_swapCharters_5 ?_
  refine s_leti (fun v_2 => ?_)
  refine s_istore_n F (lv' := [(3, .int v_2), (0, .ref (gad g q)), (1, .int x1), (2, .int x2)]) dX3_swapCharters_6 rfl (by decide) rfl ?_
  refine s_aload_n F dX3_swapCharters_7 rfl 1 rfl ?_
  have hw_3 := wf_ref F.2.2.2.2.2.2.1 hq 2 3 (.inr (0, 6)) rfl
  refine s_getr F ciX3 2 3 (.inr (0, 6)) hq (by decide) rfl rfl m194 dX3_swapCharters_8 ?_
  refine s_iload_n F dX3_swapCharters_11 rfl 2 rfl ?_
  refine s_aload_n F dX3_swapCharters_12 rfl 1 rfl ?_
  have hw_4 := wf_ref F.2.2.2.2.2.2.1 hq 2 3 (.inr (0, 6)) rfl
  refine s_getr F ciX3 2 3 (.inr (0, 6)) hq (by decide) rfl rfl m194 dX3_swapCharters_13 ?_
  refine s_iload_n F dX3_swapCharters_16 rfl 3 rfl ?_
  refine s_iald F hw_4 dX3_swapCharters_17 ?_
  refine s_iast F hw_3 dX3_swapCharters_18 ?_
  refine s_letH (fun h_5 => ?_)
  refine s_aload_n F dX3_swapCharters_19 rfl 1 rfl ?_
  have hw_6 := wf_ref F.2.2.2.2.2.2.1 hq 2 3 (.inr (0, 6)) rfl
  refine s_getr F ciX3 2 3 (.inr (0, 6)) hq (by decide) rfl rfl m194 dX3_swapCharters_20 ?_
  refine s_iload_n F dX3_swapCharters_23 rfl 3 rfl ?_
  refine s_iload_n F dX3_swapCharters_24 rfl 0 rfl ?_
  refine s_iast F hw_6 dX3_swapCharters_25 ?_
  refine s_letH (fun h_7 => ?_)
  exact s_vret F dX3_swapCharters_26
theorem dX3_dealNext_0 : decode cX3_dealNext 0 = .ok (.aload_n 0, 1) := by decide +kernel
theorem dX3_dealNext_1 : decode cX3_dealNext 1 = .ok (.getfield 79, 3) := by decide +kernel
theorem dX3_dealNext_4 : decode cX3_dealNext 4 = .ok (.iconst 2, 1) := by decide +kernel
theorem dX3_dealNext_5 : decode cX3_dealNext 5 = .ok (.isub, 1) := by decide +kernel
theorem dX3_dealNext_6 : decode cX3_dealNext 6 = .ok (.istore_n 1, 1) := by decide +kernel
theorem dX3_dealNext_7 : decode cX3_dealNext 7 = .ok (.iload_n 1, 1) := by decide +kernel
theorem dX3_dealNext_8 : decode cX3_dealNext 8 = .ok (.ifCond .lt 26, 3) := by decide +kernel
theorem dX3_dealNext_11 : decode cX3_dealNext 11 = .ok (.aload_n 0, 1) := by decide +kernel
theorem dX3_dealNext_12 : decode cX3_dealNext 12 = .ok (.getfield 18, 3) := by decide +kernel
theorem dX3_dealNext_15 : decode cX3_dealNext 15 = .ok (.iload_n 1, 1) := by decide +kernel
theorem dX3_dealNext_16 : decode cX3_dealNext 16 = .ok (.iaload, 1) := by decide +kernel
theorem dX3_dealNext_17 : decode cX3_dealNext 17 = .ok (.aload_n 0, 1) := by decide +kernel
theorem dX3_dealNext_18 : decode cX3_dealNext 18 = .ok (.getfield 18, 3) := by decide +kernel
theorem dX3_dealNext_21 : decode cX3_dealNext 21 = .ok (.iload_n 1, 1) := by decide +kernel
theorem dX3_dealNext_22 : decode cX3_dealNext 22 = .ok (.iconst 1, 1) := by decide +kernel
theorem dX3_dealNext_23 : decode cX3_dealNext 23 = .ok (.iadd, 1) := by decide +kernel
theorem dX3_dealNext_24 : decode cX3_dealNext 24 = .ok (.iaload, 1) := by decide +kernel
theorem dX3_dealNext_25 : decode cX3_dealNext 25 = .ok (.if_icmp .lt 9, 3) := by decide +kernel
theorem dX3_dealNext_28 : decode cX3_dealNext 28 = .ok (.iinc 1 (-1), 3) := by decide +kernel
theorem dX3_dealNext_31 : decode cX3_dealNext 31 = .ok (.goto (-24), 3) := by decide +kernel
theorem dX3_dealNext_34 : decode cX3_dealNext 34 = .ok (.iload_n 1, 1) := by decide +kernel
theorem dX3_dealNext_35 : decode cX3_dealNext 35 = .ok (.ifCond .ge 5, 3) := by decide +kernel
theorem dX3_dealNext_38 : decode cX3_dealNext 38 = .ok (.iconst 0, 1) := by decide +kernel
theorem dX3_dealNext_39 : decode cX3_dealNext 39 = .ok (.ireturn, 1) := by decide +kernel
theorem dX3_dealNext_40 : decode cX3_dealNext 40 = .ok (.aload_n 0, 1) := by decide +kernel
theorem dX3_dealNext_41 : decode cX3_dealNext 41 = .ok (.getfield 79, 3) := by decide +kernel
theorem dX3_dealNext_44 : decode cX3_dealNext 44 = .ok (.iconst 1, 1) := by decide +kernel
theorem dX3_dealNext_45 : decode cX3_dealNext 45 = .ok (.isub, 1) := by decide +kernel
theorem dX3_dealNext_46 : decode cX3_dealNext 46 = .ok (.istore_n 2, 1) := by decide +kernel
theorem dX3_dealNext_47 : decode cX3_dealNext 47 = .ok (.iload_n 2, 1) := by decide +kernel
theorem dX3_dealNext_48 : decode cX3_dealNext 48 = .ok (.iload_n 1, 1) := by decide +kernel
theorem dX3_dealNext_49 : decode cX3_dealNext 49 = .ok (.if_icmp .le 24, 3) := by decide +kernel
theorem dX3_dealNext_52 : decode cX3_dealNext 52 = .ok (.aload_n 0, 1) := by decide +kernel
theorem dX3_dealNext_53 : decode cX3_dealNext 53 = .ok (.getfield 18, 3) := by decide +kernel
theorem dX3_dealNext_56 : decode cX3_dealNext 56 = .ok (.iload_n 2, 1) := by decide +kernel
theorem dX3_dealNext_57 : decode cX3_dealNext 57 = .ok (.iaload, 1) := by decide +kernel
theorem dX3_dealNext_58 : decode cX3_dealNext 58 = .ok (.aload_n 0, 1) := by decide +kernel
theorem dX3_dealNext_59 : decode cX3_dealNext 59 = .ok (.getfield 18, 3) := by decide +kernel
theorem dX3_dealNext_62 : decode cX3_dealNext 62 = .ok (.iload_n 1, 1) := by decide +kernel
theorem dX3_dealNext_63 : decode cX3_dealNext 63 = .ok (.iaload, 1) := by decide +kernel
theorem dX3_dealNext_64 : decode cX3_dealNext 64 = .ok (.if_icmp .gt 9, 3) := by decide +kernel
theorem dX3_dealNext_67 : decode cX3_dealNext 67 = .ok (.iinc 2 (-1), 3) := by decide +kernel
theorem dX3_dealNext_70 : decode cX3_dealNext 70 = .ok (.goto (-23), 3) := by decide +kernel
theorem dX3_dealNext_73 : decode cX3_dealNext 73 = .ok (.aload_n 0, 1) := by decide +kernel
theorem dX3_dealNext_74 : decode cX3_dealNext 74 = .ok (.iload_n 1, 1) := by decide +kernel
theorem dX3_dealNext_75 : decode cX3_dealNext 75 = .ok (.iload_n 2, 1) := by decide +kernel
theorem dX3_dealNext_76 : decode cX3_dealNext 76 = .ok (.invokevirtual 135, 3) := by decide +kernel
theorem dX3_dealNext_79 : decode cX3_dealNext 79 = .ok (.iload_n 1, 1) := by decide +kernel
theorem dX3_dealNext_80 : decode cX3_dealNext 80 = .ok (.iconst 1, 1) := by decide +kernel
theorem dX3_dealNext_81 : decode cX3_dealNext 81 = .ok (.iadd, 1) := by decide +kernel
theorem dX3_dealNext_82 : decode cX3_dealNext 82 = .ok (.istore_n 3, 1) := by decide +kernel
theorem dX3_dealNext_83 : decode cX3_dealNext 83 = .ok (.aload_n 0, 1) := by decide +kernel
theorem dX3_dealNext_84 : decode cX3_dealNext 84 = .ok (.getfield 79, 3) := by decide +kernel
theorem dX3_dealNext_87 : decode cX3_dealNext 87 = .ok (.iconst 1, 1) := by decide +kernel
theorem dX3_dealNext_88 : decode cX3_dealNext 88 = .ok (.isub, 1) := by decide +kernel
theorem dX3_dealNext_89 : decode cX3_dealNext 89 = .ok (.istore 4, 2) := by decide +kernel
theorem dX3_dealNext_91 : decode cX3_dealNext 91 = .ok (.iload_n 3, 1) := by decide +kernel
theorem dX3_dealNext_92 : decode cX3_dealNext 92 = .ok (.iload 4, 2) := by decide +kernel
theorem dX3_dealNext_94 : decode cX3_dealNext 94 = .ok (.if_icmp .ge 19, 3) := by decide +kernel
theorem dX3_dealNext_97 : decode cX3_dealNext 97 = .ok (.aload_n 0, 1) := by decide +kernel
theorem dX3_dealNext_98 : decode cX3_dealNext 98 = .ok (.iload_n 3, 1) := by decide +kernel
theorem dX3_dealNext_99 : decode cX3_dealNext 99 = .ok (.iload 4, 2) := by decide +kernel
theorem dX3_dealNext_101 : decode cX3_dealNext 101 = .ok (.invokevirtual 135, 3) := by decide +kernel
theorem dX3_dealNext_104 : decode cX3_dealNext 104 = .ok (.iinc 3 1, 3) := by decide +kernel
theorem dX3_dealNext_107 : decode cX3_dealNext 107 = .ok (.iinc 4 (-1), 3) := by decide +kernel
theorem dX3_dealNext_110 : decode cX3_dealNext 110 = .ok (.goto (-19), 3) := by decide +kernel
theorem dX3_dealNext_113 : decode cX3_dealNext 113 = .ok (.iconst 1, 1) := by decide +kernel
theorem dX3_dealNext_114 : decode cX3_dealNext 114 = .ok (.ireturn, 1) := by decide +kernel
theorem yv_X3_dealNext : YV yX3_dealNext cX3_dealNext 5 (some .boolean) 0 := ⟨m774, ms23, m7, m775, ⟨by decide +kernel, by decide +kernel, by decide +kernel⟩, by decide⟩
noncomputable def f_X3_dealNext_91 (q : Nat) : Nat → Int32 → Int32 → AH → Option (Int32 × AH)
  | 0, _, _, _ => none
  | n + 1, x3, x4, h => if x4 ≤ x3 then (some (1, h)) else (bd (f_X3_swapCharters q x3 x4 h) (fun _ h_1 => lt (x3 + 1) (fun v_3 => lt (x4 + (-1)) (fun v_4 => (f_X3_dealNext_91 q n) v_3 v_4 h_1))))
set_option maxRecDepth 20000 in
set_option maxHeartbeats 4000000 in
theorem t_X3_dealNext_91 {z : MC} {g : GC} {A : Nat → Prop} (F : Fx z cX3_dealNext 5 RX3 (some .boolean) 2 g A) {q : Nat} (hq : (gL g)[q]? = some (.inl 3)) : ∀ (n : Nat) (x3 : Int32) (x4 : Int32) (h : AH), Snd z 5 g A (QF z g A mkI) 91 [(0, .ref (gad g q)), (3, .int x3), (4, .int x4)] [] h (f_X3_dealNext_91 q n x3 x4 h) := by
  intro n
  induction n with
  | zero => intros; exact s_none
  | succ n ih =>
    intro x3 x4 h
    unfold f_X3_dealNext_91
    refine s_iload_n F dX3_dealNext_91 rfl 1 rfl ?_
    refine s_iload F dX3_dealNext_92 2 rfl ?_
    refine s_icmp_ge F 113 dX3_dealNext_94 (by decide) (fun _ => ?_) (fun _ => ?_)
    · refine s_iconst F (v := 1) dX3_dealNext_113 (by decide) ?_
      exact s_zret1 F (by decide) dX3_dealNext_114
    · refine s_aload_n F dX3_dealNext_97 rfl 0 rfl ?_
      refine s_iload_n F dX3_dealNext_98 rfl 1 rfl ?_
      refine s_iload F dX3_dealNext_99 2 rfl ?_
      refine s_callVu (f := fun hh => f_X3_swapCharters q x3 x4 hh) (As := [.int x3, .int x4]) F yv_X3_swapCharters (ct_X3_swapCharters z.2.1 g hq x3 x4) (by decide) m768 hq rfl rfl rfl (Nat.le_of_ble_eq_true rfl) dX3_dealNext_101 (fun _ h_1 e_v_2 => ?_)
      refine s_iincv F dX3_dealNext_104 1 rfl (by decide) (c := 1) (by decide) (fun v_3 => ?_)
      refine s_lv (lv' := [(3, .int v_3), (0, .ref (gad g q)), (4, .int x4)]) rfl ?_
      refine s_iincv F dX3_dealNext_107 2 rfl (by decide) (c := (-1)) (by decide) (fun v_4 => ?_)
      refine s_lv (lv' := [(4, .int v_4), (3, .int v_3), (0, .ref (gad g q))]) rfl ?_
      refine s_goto F 91 dX3_dealNext_110 (by decide) ?_
      exact s_sub [2, 1, 0] rfl (ih v_3 v_4 h_1)
noncomputable def f_X3_dealNext_73 (q : Nat) (x1 : Int32) (x2 : Int32) (h : AH) : Option (Int32 × AH) := bd (f_X3_swapCharters q x1 x2 h) (fun _ h_1 => lt ((x1 + 1)) (fun v_3 => lt (((h_1 q 8) - 1)) (fun v_4 => f_X3_dealNext_91 q fu v_3 v_4 h_1)))
set_option maxRecDepth 20000 in
set_option maxHeartbeats 4000000 in
theorem t_X3_dealNext_73 {z : MC} {g : GC} {A : Nat → Prop} (F : Fx z cX3_dealNext 5 RX3 (some .boolean) 2 g A) {q : Nat} (hq : (gL g)[q]? = some (.inl 3)) : ∀ (x1 : Int32) (x2 : Int32) (h : AH), Snd z 5 g A (QF z g A mkI) 73 [(0, .ref (gad g q)), (1, .int x1), (2, .int x2)] [] h (f_X3_dealNext_73 q x1 x2 h) := by
  intro x1 x2 h
  unfold f_X3_dealNext_73
  refine s_aload_n F dX3_dealNext_73 rfl 0 rfl ?_
  refine s_iload_n F dX3_dealNext_74 rfl 1 rfl ?_
  refine s_iload_n F dX3_dealNext_75 rfl 2 rfl ?_
  refine s_callVu (f := fun hh => f_X3_swapCharters q x1 x2 hh) (As := [.int x1, .int x2]) F yv_X3_swapCharters (ct_X3_swapCharters z.2.1 g hq x1 x2) (by decide) m768 hq rfl rfl rfl (Nat.le_of_ble_eq_true rfl) dX3_dealNext_76 (fun _ h_1 e_v_2 => ?_)
  refine s_iload_n F dX3_dealNext_79 rfl 1 rfl ?_
  refine s_iconst F (v := 1) dX3_dealNext_80 (by decide) ?_
  refine s_iadd F dX3_dealNext_81 ?_
  refine s_leti (fun v_3 => ?_)
  refine s_istore_n F (lv' := [(3, .int v_3), (0, .ref (gad g q)), (1, .int x1), (2, .int x2)]) dX3_dealNext_82 rfl (by decide) rfl ?_
  refine s_aload_n F dX3_dealNext_83 rfl 1 rfl ?_
  refine s_geti F ciX3 8 hq (by decide) rfl rfl m200 dX3_dealNext_84 ?_
  refine s_iconst F (v := 1) dX3_dealNext_87 (by decide) ?_
  refine s_isub F dX3_dealNext_88 ?_
  refine s_leti (fun v_4 => ?_)
  refine s_istore F (lv' := [(4, .int v_4), (3, .int v_3), (0, .ref (gad g q)), (1, .int x1), (2, .int x2)]) dX3_dealNext_89 (by decide) rfl ?_
  exact s_sub [2, 1, 0] rfl (t_X3_dealNext_91 F hq fu v_3 v_4 h_1)
noncomputable def f_X3_dealNext_47 (q : Nat) : Nat → Int32 → Int32 → AH → Option (Int32 × AH)
  | 0, _, _, _ => none
  | n + 1, x1, x2, h => if x2 ≤ x1 then (f_X3_dealNext_73 q x1 x2 h) else (ck x2 6 (ck x1 6 (if (h (q + 3) (x1 : Int32).toNatClampNeg) < (h (q + 3) (x2 : Int32).toNatClampNeg) then (f_X3_dealNext_73 q x1 x2 h) else (lt (x2 + (-1)) (fun v_3 => (f_X3_dealNext_47 q n) x1 v_3 h)))))
set_option maxRecDepth 20000 in
set_option maxHeartbeats 4000000 in
theorem t_X3_dealNext_47 {z : MC} {g : GC} {A : Nat → Prop} (F : Fx z cX3_dealNext 5 RX3 (some .boolean) 2 g A) {q : Nat} (hq : (gL g)[q]? = some (.inl 3)) : ∀ (n : Nat) (x1 : Int32) (x2 : Int32) (h : AH), Snd z 5 g A (QF z g A mkI) 47 [(0, .ref (gad g q)), (1, .int x1), (2, .int x2)] [] h (f_X3_dealNext_47 q n x1 x2 h) := by
  intro n
  induction n with
  | zero => intros; exact s_none
  | succ n ih =>
    intro x1 x2 h
    unfold f_X3_dealNext_47
    refine s_iload_n F dX3_dealNext_47 rfl 2 rfl ?_
    refine s_iload_n F dX3_dealNext_48 rfl 1 rfl ?_
    refine s_icmp_le F 73 dX3_dealNext_49 (by decide) (fun _ => ?_) (fun _ => ?_)
    · exact s_sub [0, 1, 2] rfl (t_X3_dealNext_73 F hq x1 x2 h)
    · refine s_aload_n F dX3_dealNext_52 rfl 0 rfl ?_
      have hw_1 := wf_ref F.2.2.2.2.2.2.1 hq 2 3 (.inr (0, 6)) rfl
      refine s_getr F ciX3 2 3 (.inr (0, 6)) hq (by decide) rfl rfl m194 dX3_dealNext_53 ?_
      refine s_iload_n F dX3_dealNext_56 rfl 2 rfl ?_
      refine s_iald F hw_1 dX3_dealNext_57 ?_
      refine s_aload_n F dX3_dealNext_58 rfl 0 rfl ?_
      have hw_2 := wf_ref F.2.2.2.2.2.2.1 hq 2 3 (.inr (0, 6)) rfl
      refine s_getr F ciX3 2 3 (.inr (0, 6)) hq (by decide) rfl rfl m194 dX3_dealNext_59 ?_
      refine s_iload_n F dX3_dealNext_62 rfl 1 rfl ?_
      refine s_iald F hw_2 dX3_dealNext_63 ?_
      refine s_icmp_gt F 73 dX3_dealNext_64 (by decide) (fun _ => ?_) (fun _ => ?_)
      · exact s_sub [0, 1, 2] rfl (t_X3_dealNext_73 F hq x1 x2 h)
      · refine s_iincv F dX3_dealNext_67 2 rfl (by decide) (c := (-1)) (by decide) (fun v_3 => ?_)
        refine s_lv (lv' := [(2, .int v_3), (0, .ref (gad g q)), (1, .int x1)]) rfl ?_
        refine s_goto F 47 dX3_dealNext_70 (by decide) ?_
        exact s_sub [1, 2, 0] rfl (ih x1 v_3 h)
noncomputable def f_X3_dealNext_34 (q : Nat) (x1 : Int32) (h : AH) : Option (Int32 × AH) := if (0 : Int32) ≤ x1 then (lt (((h q 8) - 1)) (fun v_1 => f_X3_dealNext_47 q fu x1 v_1 h)) else (some (0, h))
set_option maxRecDepth 20000 in
set_option maxHeartbeats 4000000 in
theorem t_X3_dealNext_34 {z : MC} {g : GC} {A : Nat → Prop} (F : Fx z cX3_dealNext 5 RX3 (some .boolean) 2 g A) {q : Nat} (hq : (gL g)[q]? = some (.inl 3)) : ∀ (x1 : Int32) (h : AH), Snd z 5 g A (QF z g A mkI) 34 [(0, .ref (gad g q)), (1, .int x1)] [] h (f_X3_dealNext_34 q x1 h) := by
  intro x1 h
  unfold f_X3_dealNext_34
  refine s_iload_n F dX3_dealNext_34 rfl 1 rfl ?_
  refine s_if_ge F 40 dX3_dealNext_35 (by decide) (fun _ => ?_) (fun _ => ?_)
  · refine s_aload_n F dX3_dealNext_40 rfl 0 rfl ?_
    refine s_geti F ciX3 8 hq (by decide) rfl rfl m200 dX3_dealNext_41 ?_
    refine s_iconst F (v := 1) dX3_dealNext_44 (by decide) ?_
    refine s_isub F dX3_dealNext_45 ?_
    refine s_leti (fun v_1 => ?_)
    refine s_istore_n F (lv' := [(2, .int v_1), (0, .ref (gad g q)), (1, .int x1)]) dX3_dealNext_46 rfl (by decide) rfl ?_
    exact s_sub [1, 2, 0] rfl (t_X3_dealNext_47 F hq fu x1 v_1 h)
  · refine s_iconst F (v := 0) dX3_dealNext_38 (by decide) ?_
    exact s_zret1 F (by decide) dX3_dealNext_39
noncomputable def f_X3_dealNext_7 (q : Nat) : Nat → Int32 → AH → Option (Int32 × AH)
  | 0, _, _ => none
  | n + 1, x1, h => if x1 < 0 then (f_X3_dealNext_34 q x1 h) else (ck x1 6 (lt ((x1 + 1)) (fun v_3 => ck v_3 6 (if (h (q + 3) (x1 : Int32).toNatClampNeg) < (h (q + 3) (v_3 : Int32).toNatClampNeg) then (f_X3_dealNext_34 q x1 h) else (lt (x1 + (-1)) (fun v_4 => (f_X3_dealNext_7 q n) v_4 h))))))
set_option maxRecDepth 20000 in
set_option maxHeartbeats 4000000 in
theorem t_X3_dealNext_7 {z : MC} {g : GC} {A : Nat → Prop} (F : Fx z cX3_dealNext 5 RX3 (some .boolean) 2 g A) {q : Nat} (hq : (gL g)[q]? = some (.inl 3)) : ∀ (n : Nat) (x1 : Int32) (h : AH), Snd z 5 g A (QF z g A mkI) 7 [(0, .ref (gad g q)), (1, .int x1)] [] h (f_X3_dealNext_7 q n x1 h) := by
  intro n
  induction n with
  | zero => intros; exact s_none
  | succ n ih =>
    intro x1 h
    unfold f_X3_dealNext_7
    refine s_iload_n F dX3_dealNext_7 rfl 1 rfl ?_
    refine s_if_lt F 34 dX3_dealNext_8 (by decide) (fun _ => ?_) (fun _ => ?_)
    · exact s_sub [0, 1] rfl (t_X3_dealNext_34 F hq x1 h)
    · refine s_aload_n F dX3_dealNext_11 rfl 0 rfl ?_
      have hw_1 := wf_ref F.2.2.2.2.2.2.1 hq 2 3 (.inr (0, 6)) rfl
      refine s_getr F ciX3 2 3 (.inr (0, 6)) hq (by decide) rfl rfl m194 dX3_dealNext_12 ?_
      refine s_iload_n F dX3_dealNext_15 rfl 1 rfl ?_
      refine s_iald F hw_1 dX3_dealNext_16 ?_
      refine s_aload_n F dX3_dealNext_17 rfl 0 rfl ?_
      have hw_2 := wf_ref F.2.2.2.2.2.2.1 hq 2 3 (.inr (0, 6)) rfl
      refine s_getr F ciX3 2 3 (.inr (0, 6)) hq (by decide) rfl rfl m194 dX3_dealNext_18 ?_
      refine s_iload_n F dX3_dealNext_21 rfl 1 rfl ?_
      refine s_iconst F (v := 1) dX3_dealNext_22 (by decide) ?_
      refine s_iadd F dX3_dealNext_23 ?_
      refine s_leti (fun v_3 => ?_)
      refine s_iald F hw_2 dX3_dealNext_24 ?_
      refine s_icmp_lt F 34 dX3_dealNext_25 (by decide) (fun _ => ?_) (fun _ => ?_)
      · exact s_sub [0, 1] rfl (t_X3_dealNext_34 F hq x1 h)
      · refine s_iincv F dX3_dealNext_28 1 rfl (by decide) (c := (-1)) (by decide) (fun v_4 => ?_)
        refine s_lv (lv' := [(1, .int v_4), (0, .ref (gad g q))]) rfl ?_
        refine s_goto F 7 dX3_dealNext_31 (by decide) ?_
        exact s_sub [1, 0] rfl (ih v_4 h)
noncomputable def f_X3_dealNext (q : Nat) (h : AH) : Option (Int32 × AH) := lt (((h q 8) - 2)) (fun v_1 => f_X3_dealNext_7 q fu v_1 h)
set_option maxRecDepth 20000 in
set_option maxHeartbeats 4000000 in
theorem ct_X3_dealNext (l : Launch) (g : GC) {q : Nat} (hq : (gL g)[q]? = some (.inl 3)) : Ct l yX3_dealNext cX3_dealNext 5 (some .boolean) 2 [.ref (gad g q)] g mkI (fun h => f_X3_dealNext q h) := by
  refine Ct.of (by decide +kernel) (Nat.le_of_ble_eq_true rfl) (fun z A h _ F => ?_)
  show Snd z 5 g A (QF z g A mkI) 0 [(0, .ref (gad g q))] [] h (f_X3_dealNext q h)
  unfold f_X3_dealNext
  refine s_aload_n F dX3_dealNext_0 rfl 0 rfl ?_
  refine s_geti F ciX3 8 hq (by decide) rfl rfl m200 dX3_dealNext_1 ?_
  refine s_iconst F (v := 2) dX3_dealNext_4 (by decide) ?_
  refine s_isub F dX3_dealNext_5 ?_
  refine s_leti (fun v_1 => ?_)
  refine s_istore_n F (lv' := [(1, .int v_1), (0, .ref (gad g q))]) dX3_dealNext_6 rfl (by decide) rfl ?_
  exact s_sub [1, 0] rfl (t_X3_dealNext_7 F hq fu v_1 h)
theorem dX3_sortCharters_0 : decode cX3_sortCharters 0 = .ok (.iconst 1, 1) := by decide +kernel
theorem dX3_sortCharters_1 : decode cX3_sortCharters 1 = .ok (.istore_n 1, 1) := by decide +kernel
theorem dX3_sortCharters_2 : decode cX3_sortCharters 2 = .ok (.iload_n 1, 1) := by decide +kernel
theorem dX3_sortCharters_3 : decode cX3_sortCharters 3 = .ok (.aload_n 0, 1) := by decide +kernel
theorem dX3_sortCharters_4 : decode cX3_sortCharters 4 = .ok (.getfield 79, 3) := by decide +kernel
theorem dX3_sortCharters_7 : decode cX3_sortCharters 7 = .ok (.if_icmp .ge 46, 3) := by decide +kernel
theorem dX3_sortCharters_10 : decode cX3_sortCharters 10 = .ok (.iload_n 1, 1) := by decide +kernel
theorem dX3_sortCharters_11 : decode cX3_sortCharters 11 = .ok (.istore_n 2, 1) := by decide +kernel
theorem dX3_sortCharters_12 : decode cX3_sortCharters 12 = .ok (.iload_n 2, 1) := by decide +kernel
theorem dX3_sortCharters_13 : decode cX3_sortCharters 13 = .ok (.ifCond .le 34, 3) := by decide +kernel
theorem dX3_sortCharters_16 : decode cX3_sortCharters 16 = .ok (.aload_n 0, 1) := by decide +kernel
theorem dX3_sortCharters_17 : decode cX3_sortCharters 17 = .ok (.getfield 18, 3) := by decide +kernel
theorem dX3_sortCharters_20 : decode cX3_sortCharters 20 = .ok (.iload_n 2, 1) := by decide +kernel
theorem dX3_sortCharters_21 : decode cX3_sortCharters 21 = .ok (.iconst 1, 1) := by decide +kernel
theorem dX3_sortCharters_22 : decode cX3_sortCharters 22 = .ok (.isub, 1) := by decide +kernel
theorem dX3_sortCharters_23 : decode cX3_sortCharters 23 = .ok (.iaload, 1) := by decide +kernel
theorem dX3_sortCharters_24 : decode cX3_sortCharters 24 = .ok (.aload_n 0, 1) := by decide +kernel
theorem dX3_sortCharters_25 : decode cX3_sortCharters 25 = .ok (.getfield 18, 3) := by decide +kernel
theorem dX3_sortCharters_28 : decode cX3_sortCharters 28 = .ok (.iload_n 2, 1) := by decide +kernel
theorem dX3_sortCharters_29 : decode cX3_sortCharters 29 = .ok (.iaload, 1) := by decide +kernel
theorem dX3_sortCharters_30 : decode cX3_sortCharters 30 = .ok (.if_icmp .le 17, 3) := by decide +kernel
theorem dX3_sortCharters_33 : decode cX3_sortCharters 33 = .ok (.aload_n 0, 1) := by decide +kernel
theorem dX3_sortCharters_34 : decode cX3_sortCharters 34 = .ok (.iload_n 2, 1) := by decide +kernel
theorem dX3_sortCharters_35 : decode cX3_sortCharters 35 = .ok (.iconst 1, 1) := by decide +kernel
theorem dX3_sortCharters_36 : decode cX3_sortCharters 36 = .ok (.isub, 1) := by decide +kernel
theorem dX3_sortCharters_37 : decode cX3_sortCharters 37 = .ok (.iload_n 2, 1) := by decide +kernel
theorem dX3_sortCharters_38 : decode cX3_sortCharters 38 = .ok (.invokevirtual 135, 3) := by decide +kernel
theorem dX3_sortCharters_41 : decode cX3_sortCharters 41 = .ok (.iinc 2 (-1), 3) := by decide +kernel
theorem dX3_sortCharters_44 : decode cX3_sortCharters 44 = .ok (.goto (-32), 3) := by decide +kernel
theorem dX3_sortCharters_47 : decode cX3_sortCharters 47 = .ok (.iinc 1 1, 3) := by decide +kernel
theorem dX3_sortCharters_50 : decode cX3_sortCharters 50 = .ok (.goto (-48), 3) := by decide +kernel
theorem dX3_sortCharters_53 : decode cX3_sortCharters 53 = .ok (.return_, 1) := by decide +kernel
theorem yv_X3_sortCharters : YV yX3_sortCharters cX3_sortCharters 3 none 0 := ⟨m766, ms21, m7, m767, ⟨by decide +kernel, by decide +kernel, by decide +kernel⟩, by decide⟩
noncomputable def f_X3_sortCharters_12 (q : Nat) (K2 : Int32 → AH → Option (Unit × AH)) : Nat → Int32 → Int32 → AH → Option (Unit × AH)
  | 0, _, _, _ => none
  | n + 1, x1, x2, h => if x2 ≤ 0 then (lt (x1 + 1) (fun v_1 => K2 v_1 h)) else (lt ((x2 - 1)) (fun v_3 => ck v_3 6 (ck x2 6 (if (h (q + 3) (v_3 : Int32).toNatClampNeg) ≤ (h (q + 3) (x2 : Int32).toNatClampNeg) then (lt (x1 + 1) (fun v_5 => K2 v_5 h)) else (bd (f_X3_swapCharters q (x2 - 1) x2 h) (fun _ h_6 => lt (x2 + (-1)) (fun v_8 => (f_X3_sortCharters_12 q K2 n) x1 v_8 h_6)))))))
set_option maxRecDepth 20000 in
set_option maxHeartbeats 4000000 in
theorem t_X3_sortCharters_12 {z : MC} {g : GC} {A : Nat → Prop} (F : Fx z cX3_sortCharters 3 RX3 none 2 g A) {q : Nat} (hq : (gL g)[q]? = some (.inl 3)) (K2 : Int32 → AH → Option (Unit × AH)) (hK2 : ∀ (x1 : Int32) (h : AH), Snd z 3 g A (QF z g A mkU) 2 [(0, .ref (gad g q)), (1, .int x1)] [] h (K2 x1 h)) : ∀ (n : Nat) (x1 : Int32) (x2 : Int32) (h : AH), Snd z 3 g A (QF z g A mkU) 12 [(0, .ref (gad g q)), (1, .int x1), (2, .int x2)] [] h (f_X3_sortCharters_12 q K2 n x1 x2 h) := by
  intro n
  induction n with
  | zero => intros; exact s_none
  | succ n ih =>
    intro x1 x2 h
    unfold f_X3_sortCharters_12
    refine s_iload_n F dX3_sortCharters_12 rfl 2 rfl ?_
    refine s_if_le F 47 dX3_sortCharters_13 (by decide) (fun _ => ?_) (fun _ => ?_)
    · refine s_iincv F dX3_sortCharters_47 1 rfl (by decide) (c := 1) (by decide) (fun v_1 => ?_)
      refine s_lv (lv' := [(1, .int v_1), (0, .ref (gad g q)), (2, .int x2)]) rfl ?_
      refine s_goto F 2 dX3_sortCharters_50 (by decide) ?_
      exact s_sub [1, 0] rfl (hK2 v_1 h)
    · refine s_aload_n F dX3_sortCharters_16 rfl 0 rfl ?_
      have hw_2 := wf_ref F.2.2.2.2.2.2.1 hq 2 3 (.inr (0, 6)) rfl
      refine s_getr F ciX3 2 3 (.inr (0, 6)) hq (by decide) rfl rfl m194 dX3_sortCharters_17 ?_
      refine s_iload_n F dX3_sortCharters_20 rfl 2 rfl ?_
      refine s_iconst F (v := 1) dX3_sortCharters_21 (by decide) ?_
      refine s_isub F dX3_sortCharters_22 ?_
      refine s_leti (fun v_3 => ?_)
      refine s_iald F hw_2 dX3_sortCharters_23 ?_
      refine s_aload_n F dX3_sortCharters_24 rfl 0 rfl ?_
      have hw_4 := wf_ref F.2.2.2.2.2.2.1 hq 2 3 (.inr (0, 6)) rfl
      refine s_getr F ciX3 2 3 (.inr (0, 6)) hq (by decide) rfl rfl m194 dX3_sortCharters_25 ?_
      refine s_iload_n F dX3_sortCharters_28 rfl 2 rfl ?_
      refine s_iald F hw_4 dX3_sortCharters_29 ?_
      refine s_icmp_le F 47 dX3_sortCharters_30 (by decide) (fun _ => ?_) (fun _ => ?_)
      · refine s_iincv F dX3_sortCharters_47 1 rfl (by decide) (c := 1) (by decide) (fun v_5 => ?_)
        refine s_lv (lv' := [(1, .int v_5), (0, .ref (gad g q)), (2, .int x2)]) rfl ?_
        refine s_goto F 2 dX3_sortCharters_50 (by decide) ?_
        exact s_sub [1, 0] rfl (hK2 v_5 h)
      · refine s_aload_n F dX3_sortCharters_33 rfl 0 rfl ?_
        refine s_iload_n F dX3_sortCharters_34 rfl 2 rfl ?_
        refine s_iconst F (v := 1) dX3_sortCharters_35 (by decide) ?_
        refine s_isub F dX3_sortCharters_36 ?_
        refine s_iload_n F dX3_sortCharters_37 rfl 2 rfl ?_
        refine s_callVu (f := fun hh => f_X3_swapCharters q (x2 - 1) x2 hh) (As := [.int (x2 - 1), .int x2]) F yv_X3_swapCharters (ct_X3_swapCharters z.2.1 g hq (x2 - 1) x2) (by decide) m768 hq rfl rfl rfl (Nat.le_of_ble_eq_true rfl) dX3_sortCharters_38 (fun _ h_6 e_v_7 => ?_)
        refine s_iincv F dX3_sortCharters_41 2 rfl (by decide) (c := (-1)) (by decide) (fun v_8 => ?_)
        refine s_lv (lv' := [(2, .int v_8), (0, .ref (gad g q)), (1, .int x1)]) rfl ?_
        refine s_goto F 12 dX3_sortCharters_44 (by decide) ?_
        exact s_sub [1, 2, 0] rfl (ih x1 v_8 h_6)
noncomputable def f_X3_sortCharters_2 (q : Nat) : Nat → Int32 → AH → Option (Unit × AH)
  | 0, _, _ => none
  | n + 1, x1, h => if (h q 8) ≤ x1 then (some ((), h)) else (f_X3_sortCharters_12 q (f_X3_sortCharters_2 q n) fu x1 x1 h)
set_option maxRecDepth 20000 in
set_option maxHeartbeats 4000000 in
theorem t_X3_sortCharters_2 {z : MC} {g : GC} {A : Nat → Prop} (F : Fx z cX3_sortCharters 3 RX3 none 2 g A) {q : Nat} (hq : (gL g)[q]? = some (.inl 3)) : ∀ (n : Nat) (x1 : Int32) (h : AH), Snd z 3 g A (QF z g A mkU) 2 [(0, .ref (gad g q)), (1, .int x1)] [] h (f_X3_sortCharters_2 q n x1 h) := by
  intro n
  induction n with
  | zero => intros; exact s_none
  | succ n ih =>
    intro x1 h
    unfold f_X3_sortCharters_2
    refine s_iload_n F dX3_sortCharters_2 rfl 1 rfl ?_
    refine s_aload_n F dX3_sortCharters_3 rfl 0 rfl ?_
    refine s_geti F ciX3 8 hq (by decide) rfl rfl m200 dX3_sortCharters_4 ?_
    refine s_icmp_ge F 53 dX3_sortCharters_7 (by decide) (fun _ => ?_) (fun _ => ?_)
    · exact s_vret F dX3_sortCharters_53
    · refine s_iload_n F dX3_sortCharters_10 rfl 1 rfl ?_
      refine s_istore_n F (lv' := [(2, .int x1), (0, .ref (gad g q)), (1, .int x1)]) dX3_sortCharters_11 rfl (by decide) rfl ?_
      exact s_sub [1, 2, 0] rfl (t_X3_sortCharters_12 F hq (f_X3_sortCharters_2 q n) ih fu x1 x1 h)
noncomputable def f_X3_sortCharters (q : Nat) (h : AH) : Option (Unit × AH) := f_X3_sortCharters_2 q fu 1 h
set_option maxRecDepth 20000 in
set_option maxHeartbeats 4000000 in
theorem ct_X3_sortCharters (l : Launch) (g : GC) {q : Nat} (hq : (gL g)[q]? = some (.inl 3)) : Ct l yX3_sortCharters cX3_sortCharters 3 none 2 [.ref (gad g q)] g mkU (fun h => f_X3_sortCharters q h) := by
  refine Ct.of (by decide +kernel) (Nat.le_of_ble_eq_true rfl) (fun z A h _ F => ?_)
  show Snd z 3 g A (QF z g A mkU) 0 [(0, .ref (gad g q))] [] h (f_X3_sortCharters q h)
  unfold f_X3_sortCharters
  refine s_iconst F (v := 1) dX3_sortCharters_0 (by decide) ?_
  refine s_istore_n F (lv' := [(1, .int 1), (0, .ref (gad g q))]) dX3_sortCharters_1 rfl (by decide) rfl ?_
  exact s_sub [1, 0] rfl (t_X3_sortCharters_2 F hq fu 1 h)
theorem dX3_dealAnew_0 : decode cX3_dealAnew 0 = .ok (.aload_n 0, 1) := by decide +kernel
theorem dX3_dealAnew_1 : decode cX3_dealAnew 1 = .ok (.aload_n 1, 1) := by decide +kernel
theorem dX3_dealAnew_2 : decode cX3_dealAnew 2 = .ok (.iconst 1, 1) := by decide +kernel
theorem dX3_dealAnew_3 : decode cX3_dealAnew 3 = .ok (.iload_n 2, 1) := by decide +kernel
theorem dX3_dealAnew_4 : decode cX3_dealAnew 4 = .ok (.iload_n 3, 1) := by decide +kernel
theorem dX3_dealAnew_5 : decode cX3_dealAnew 5 = .ok (.invokevirtual 36, 3) := by decide +kernel
theorem dX3_dealAnew_8 : decode cX3_dealAnew 8 = .ok (.istore 4, 2) := by decide +kernel
theorem dX3_dealAnew_10 : decode cX3_dealAnew 10 = .ok (.aload_n 0, 1) := by decide +kernel
theorem dX3_dealAnew_11 : decode cX3_dealAnew 11 = .ok (.aload_n 1, 1) := by decide +kernel
theorem dX3_dealAnew_12 : decode cX3_dealAnew 12 = .ok (.iconst 0, 1) := by decide +kernel
theorem dX3_dealAnew_13 : decode cX3_dealAnew 13 = .ok (.iload_n 2, 1) := by decide +kernel
theorem dX3_dealAnew_14 : decode cX3_dealAnew 14 = .ok (.iload_n 3, 1) := by decide +kernel
theorem dX3_dealAnew_15 : decode cX3_dealAnew 15 = .ok (.invokevirtual 51, 3) := by decide +kernel
theorem dX3_dealAnew_18 : decode cX3_dealAnew 18 = .ok (.aload_n 0, 1) := by decide +kernel
theorem dX3_dealAnew_19 : decode cX3_dealAnew 19 = .ok (.invokevirtual 55, 3) := by decide +kernel
theorem dX3_dealAnew_22 : decode cX3_dealAnew 22 = .ok (.istore 5, 2) := by decide +kernel
theorem dX3_dealAnew_24 : decode cX3_dealAnew 24 = .ok (.aload_n 0, 1) := by decide +kernel
theorem dX3_dealAnew_25 : decode cX3_dealAnew 25 = .ok (.invokevirtual 59, 3) := by decide +kernel
theorem dX3_dealAnew_28 : decode cX3_dealAnew 28 = .ok (.iconst (-1), 1) := by decide +kernel
theorem dX3_dealAnew_29 : decode cX3_dealAnew 29 = .ok (.istore 6, 2) := by decide +kernel
theorem dX3_dealAnew_31 : decode cX3_dealAnew 31 = .ok (.iconst 1, 1) := by decide +kernel
theorem dX3_dealAnew_32 : decode cX3_dealAnew 32 = .ok (.istore 7, 2) := by decide +kernel
theorem dX3_dealAnew_34 : decode cX3_dealAnew 34 = .ok (.iconst 0, 1) := by decide +kernel
theorem dX3_dealAnew_35 : decode cX3_dealAnew 35 = .ok (.istore 8, 2) := by decide +kernel
theorem dX3_dealAnew_37 : decode cX3_dealAnew 37 = .ok (.iload 8, 2) := by decide +kernel
theorem dX3_dealAnew_39 : decode cX3_dealAnew 39 = .ok (.sipush 720, 3) := by decide +kernel
theorem dX3_dealAnew_42 : decode cX3_dealAnew 42 = .ok (.if_icmp .ge 60, 3) := by decide +kernel
theorem dX3_dealAnew_45 : decode cX3_dealAnew 45 = .ok (.iload 7, 2) := by decide +kernel
theorem dX3_dealAnew_47 : decode cX3_dealAnew 47 = .ok (.ifCond .eq 55, 3) := by decide +kernel
theorem dX3_dealAnew_50 : decode cX3_dealAnew 50 = .ok (.iload 6, 2) := by decide +kernel
theorem dX3_dealAnew_52 : decode cX3_dealAnew 52 = .ok (.iload 5, 2) := by decide +kernel
theorem dX3_dealAnew_54 : decode cX3_dealAnew 54 = .ok (.if_icmp .ge 48, 3) := by decide +kernel
theorem dX3_dealAnew_57 : decode cX3_dealAnew 57 = .ok (.aload_n 0, 1) := by decide +kernel
theorem dX3_dealAnew_58 : decode cX3_dealAnew 58 = .ok (.iconst 0, 1) := by decide +kernel
theorem dX3_dealAnew_59 : decode cX3_dealAnew 59 = .ok (.invokevirtual 62, 3) := by decide +kernel
theorem dX3_dealAnew_62 : decode cX3_dealAnew 62 = .ok (.istore 9, 2) := by decide +kernel
theorem dX3_dealAnew_64 : decode cX3_dealAnew 64 = .ok (.iload 9, 2) := by decide +kernel
theorem dX3_dealAnew_66 : decode cX3_dealAnew 66 = .ok (.iload 6, 2) := by decide +kernel
theorem dX3_dealAnew_68 : decode cX3_dealAnew 68 = .ok (.if_icmp .le 22, 3) := by decide +kernel
theorem dX3_dealAnew_71 : decode cX3_dealAnew 71 = .ok (.iload 9, 2) := by decide +kernel
theorem dX3_dealAnew_73 : decode cX3_dealAnew 73 = .ok (.istore 6, 2) := by decide +kernel
theorem dX3_dealAnew_75 : decode cX3_dealAnew 75 = .ok (.aload_n 0, 1) := by decide +kernel
theorem dX3_dealAnew_76 : decode cX3_dealAnew 76 = .ok (.getfield 18, 3) := by decide +kernel
theorem dX3_dealAnew_79 : decode cX3_dealAnew 79 = .ok (.iconst 0, 1) := by decide +kernel
theorem dX3_dealAnew_80 : decode cX3_dealAnew 80 = .ok (.aload_n 0, 1) := by decide +kernel
theorem dX3_dealAnew_81 : decode cX3_dealAnew 81 = .ok (.getfield 21, 3) := by decide +kernel
theorem dX3_dealAnew_84 : decode cX3_dealAnew 84 = .ok (.iconst 0, 1) := by decide +kernel
theorem dX3_dealAnew_85 : decode cX3_dealAnew 85 = .ok (.bipush 6, 2) := by decide +kernel
theorem dX3_dealAnew_87 : decode cX3_dealAnew 87 = .ok (.invokestatic 65, 3) := by decide +kernel
theorem dX3_dealAnew_90 : decode cX3_dealAnew 90 = .ok (.aload_n 0, 1) := by decide +kernel
theorem dX3_dealAnew_91 : decode cX3_dealAnew 91 = .ok (.invokevirtual 71, 3) := by decide +kernel
theorem dX3_dealAnew_94 : decode cX3_dealAnew 94 = .ok (.istore 7, 2) := by decide +kernel
theorem dX3_dealAnew_96 : decode cX3_dealAnew 96 = .ok (.iinc 8 1, 3) := by decide +kernel
theorem dX3_dealAnew_99 : decode cX3_dealAnew 99 = .ok (.goto (-62), 3) := by decide +kernel
theorem dX3_dealAnew_102 : decode cX3_dealAnew 102 = .ok (.iload 4, 2) := by decide +kernel
theorem dX3_dealAnew_104 : decode cX3_dealAnew 104 = .ok (.iload 6, 2) := by decide +kernel
theorem dX3_dealAnew_106 : decode cX3_dealAnew 106 = .ok (.iadd, 1) := by decide +kernel
theorem dX3_dealAnew_107 : decode cX3_dealAnew 107 = .ok (.ireturn, 1) := by decide +kernel
theorem yv_X3_dealAnew : YV yX3_dealAnew cX3_dealAnew 10 (some .int) 3 := ⟨m757, m758, m7, m759, ⟨by decide +kernel, by decide +kernel, by decide +kernel⟩, by decide⟩
noncomputable def f_X3_dealAnew_90 (q r1 : Nat) (K37 : Int32 → Int32 → Int32 → Int32 → Int32 → AH → Option (Int32 × AH)) (x4 : Int32) (x5 : Int32) (x6 : Int32) (x8 : Int32) (h : AH) : Option (Int32 × AH) := bd (f_X3_dealNext q h) (fun v_2 h_1 => lt (x8 + 1) (fun v_3 => K37 x4 x5 x6 v_2 v_3 h_1))
set_option maxRecDepth 20000 in
set_option maxHeartbeats 4000000 in
theorem t_X3_dealAnew_90 {z : MC} {g : GC} {A : Nat → Prop} (F : Fx z cX3_dealAnew 10 RX3 (some .int) 16 g A) {q : Nat} (hq : (gL g)[q]? = some (.inl 3)) {r1 : Nat} (hr1 : (gL g)[r1]? = some (.inl 2)) (K37 : Int32 → Int32 → Int32 → Int32 → Int32 → AH → Option (Int32 × AH)) (hK37 : ∀ (x4 : Int32) (x5 : Int32) (x6 : Int32) (x7 : Int32) (x8 : Int32) (h : AH), Snd z 10 g A (QF z g A mkI) 37 [(0, .ref (gad g q)), (4, .int x4), (5, .int x5), (6, .int x6), (7, .int x7), (8, .int x8)] [] h (K37 x4 x5 x6 x7 x8 h)) : ∀ (x4 : Int32) (x5 : Int32) (x6 : Int32) (x8 : Int32) (h : AH), Snd z 10 g A (QF z g A mkI) 90 [(0, .ref (gad g q)), (4, .int x4), (5, .int x5), (6, .int x6), (8, .int x8)] [] h (f_X3_dealAnew_90 q r1 K37 x4 x5 x6 x8 h) := by
  intro x4 x5 x6 x8 h
  unfold f_X3_dealAnew_90
  refine s_aload_n F dX3_dealAnew_90 rfl 0 rfl ?_
  refine s_callVi (f := fun hh => f_X3_dealNext q hh) (As := []) F yv_X3_dealNext (ct_X3_dealNext z.2.1 g hq) (by decide) m772 hq rfl rfl rfl (Nat.le_of_ble_eq_true rfl) dX3_dealAnew_91 (fun v_2 h_1 e_v_2 => ?_)
  refine s_istore F (lv' := [(7, .int v_2), (0, .ref (gad g q)), (4, .int x4), (5, .int x5), (6, .int x6), (8, .int x8)]) dX3_dealAnew_94 (by decide) rfl ?_
  refine s_iincv F dX3_dealAnew_96 5 rfl (by decide) (c := 1) (by decide) (fun v_3 => ?_)
  refine s_lv (lv' := [(8, .int v_3), (7, .int v_2), (0, .ref (gad g q)), (4, .int x4), (5, .int x5), (6, .int x6)]) rfl ?_
  refine s_goto F 37 dX3_dealAnew_99 (by decide) ?_
  exact s_sub [2, 3, 4, 5, 1, 0] rfl (hK37 x4 x5 x6 v_2 v_3 h_1)
noncomputable def f_X3_dealAnew_37 (q r1 : Nat) : Nat → Int32 → Int32 → Int32 → Int32 → Int32 → AH → Option (Int32 × AH)
  | 0, _, _, _, _, _, _ => none
  | n + 1, x4, x5, x6, x7, x8, h => if (720 : Int32) ≤ x8 then (some ((x4 + x6), h)) else (if x7 = 0 then (some ((x4 + x6), h)) else (if x5 ≤ x6 then (some ((x4 + x6), h)) else (bd (f_X3_placedFrom q 0 h) (fun v_2 h_1 => if v_2 ≤ x6 then (f_X3_dealAnew_90 q r1 (f_X3_dealAnew_37 q r1 n) x4 x5 x6 x8 h_1) else (bh (cpy h_1 (q + 3) 6 0 (q + 4) 6 0 6) (fun h_5 => f_X3_dealAnew_90 q r1 (f_X3_dealAnew_37 q r1 n) x4 x5 v_2 x8 h_5))))))
set_option maxRecDepth 20000 in
set_option maxHeartbeats 4000000 in
theorem t_X3_dealAnew_37 {z : MC} {g : GC} {A : Nat → Prop} (F : Fx z cX3_dealAnew 10 RX3 (some .int) 16 g A) {q : Nat} (hq : (gL g)[q]? = some (.inl 3)) {r1 : Nat} (hr1 : (gL g)[r1]? = some (.inl 2)) : ∀ (n : Nat) (x4 : Int32) (x5 : Int32) (x6 : Int32) (x7 : Int32) (x8 : Int32) (h : AH), Snd z 10 g A (QF z g A mkI) 37 [(0, .ref (gad g q)), (4, .int x4), (5, .int x5), (6, .int x6), (7, .int x7), (8, .int x8)] [] h (f_X3_dealAnew_37 q r1 n x4 x5 x6 x7 x8 h) := by
  intro n
  induction n with
  | zero => intros; exact s_none
  | succ n ih =>
    intro x4 x5 x6 x7 x8 h
    unfold f_X3_dealAnew_37
    refine s_iload F dX3_dealAnew_37 5 rfl ?_
    refine s_sipush F (v := 720) dX3_dealAnew_39 (by decide) ?_
    refine s_icmp_ge F 102 dX3_dealAnew_42 (by decide) (fun _ => ?_) (fun _ => ?_)
    · refine s_iload F dX3_dealAnew_102 1 rfl ?_
      refine s_iload F dX3_dealAnew_104 3 rfl ?_
      refine s_iadd F dX3_dealAnew_106 ?_
      exact s_iret F dX3_dealAnew_107
    · refine s_iload F dX3_dealAnew_45 4 rfl ?_
      refine s_if_eq F 102 dX3_dealAnew_47 (by decide) (fun _ => ?_) (fun _ => ?_)
      · refine s_iload F dX3_dealAnew_102 1 rfl ?_
        refine s_iload F dX3_dealAnew_104 3 rfl ?_
        refine s_iadd F dX3_dealAnew_106 ?_
        exact s_iret F dX3_dealAnew_107
      · refine s_iload F dX3_dealAnew_50 3 rfl ?_
        refine s_iload F dX3_dealAnew_52 2 rfl ?_
        refine s_icmp_ge F 102 dX3_dealAnew_54 (by decide) (fun _ => ?_) (fun _ => ?_)
        · refine s_iload F dX3_dealAnew_102 1 rfl ?_
          refine s_iload F dX3_dealAnew_104 3 rfl ?_
          refine s_iadd F dX3_dealAnew_106 ?_
          exact s_iret F dX3_dealAnew_107
        · refine s_aload_n F dX3_dealAnew_57 rfl 0 rfl ?_
          refine s_iconst F (v := 0) dX3_dealAnew_58 (by decide) ?_
          refine s_callVi (f := fun hh => f_X3_placedFrom q 0 hh) (As := [.int 0]) F yv_X3_placedFrom (ct_X3_placedFrom z.2.1 g hq 0) (by decide) m724 hq rfl rfl rfl (Nat.le_of_ble_eq_true rfl) dX3_dealAnew_59 (fun v_2 h_1 e_v_2 => ?_)
          refine s_istore F (lv' := [(9, .int v_2), (0, .ref (gad g q)), (4, .int x4), (5, .int x5), (6, .int x6), (7, .int x7), (8, .int x8)]) dX3_dealAnew_62 (by decide) rfl ?_
          refine s_iload F dX3_dealAnew_64 0 rfl ?_
          refine s_iload F dX3_dealAnew_66 4 rfl ?_
          refine s_icmp_le F 90 dX3_dealAnew_68 (by decide) (fun _ => ?_) (fun _ => ?_)
          · exact s_sub [1, 2, 3, 4, 6] rfl (t_X3_dealAnew_90 F hq hr1 (f_X3_dealAnew_37 q r1 n) ih x4 x5 x6 x8 h_1)
          · refine s_iload F dX3_dealAnew_71 0 rfl ?_
            refine s_istore F (lv' := [(6, .int v_2), (9, .int v_2), (0, .ref (gad g q)), (4, .int x4), (5, .int x5), (7, .int x7), (8, .int x8)]) dX3_dealAnew_73 (by decide) rfl ?_
            refine s_aload_n F dX3_dealAnew_75 rfl 2 rfl ?_
            have hw_3 := wf_ref F.2.2.2.2.2.2.1 hq 2 3 (.inr (0, 6)) rfl
            refine s_getr F ciX3 2 3 (.inr (0, 6)) hq (by decide) rfl rfl m194 dX3_dealAnew_76 ?_
            refine s_iconst F (v := 0) dX3_dealAnew_79 (by decide) ?_
            refine s_aload_n F dX3_dealAnew_80 rfl 2 rfl ?_
            have hw_4 := wf_ref F.2.2.2.2.2.2.1 hq 3 4 (.inr (0, 6)) rfl
            refine s_getr F ciX3 3 4 (.inr (0, 6)) hq (by decide) rfl rfl m195 dX3_dealAnew_81 ?_
            refine s_iconst F (v := 0) dX3_dealAnew_84 (by decide) ?_
            refine s_bipush F (v := 6) dX3_dealAnew_85 (by decide) ?_
            refine s_cpy F (by decide) hw_3 hw_4 m728 m327 m326 m10 (Nat.le_of_ble_eq_true rfl) dX3_dealAnew_87 (fun h_5 => ?_)
            exact s_sub [2, 3, 4, 0, 6] rfl (t_X3_dealAnew_90 F hq hr1 (f_X3_dealAnew_37 q r1 n) ih x4 x5 v_2 x8 h_5)
noncomputable def f_X3_dealAnew (q : Nat) (r1 : Nat) (x2 : Int32) (x3 : Int32) (h : AH) : Option (Int32 × AH) := bd (f_X3_greatestOf q r1 1 x2 x3 h) (fun v_2 h_1 => bd (f_X3_prepare q r1 0 x2 x3 h_1) (fun _ h_3 => bd (f_X3_countHopeful q h_3) (fun v_6 h_5 => bd (f_X3_sortCharters q h_5) (fun _ h_7 => f_X3_dealAnew_37 q r1 fu v_2 v_6 (-1) 1 0 h_7))))
set_option maxRecDepth 20000 in
set_option maxHeartbeats 4000000 in
theorem ct_X3_dealAnew (l : Launch) (g : GC) {q : Nat} (hq : (gL g)[q]? = some (.inl 3)) {r1 : Nat} (hr1 : (gL g)[r1]? = some (.inl 2)) (x2 : Int32) (x3 : Int32) : Ct l yX3_dealAnew cX3_dealAnew 10 (some .int) 16 [.ref (gad g q), .ref (gad g r1), .int x2, .int x3] g mkI (fun h => f_X3_dealAnew q r1 x2 x3 h) := by
  refine Ct.of (by decide +kernel) (Nat.le_of_ble_eq_true rfl) (fun z A h _ F => ?_)
  show Snd z 10 g A (QF z g A mkI) 0 [(0, .ref (gad g q)), (1, .ref (gad g r1)), (2, .int x2), (3, .int x3)] [] h (f_X3_dealAnew q r1 x2 x3 h)
  unfold f_X3_dealAnew
  refine s_aload_n F dX3_dealAnew_0 rfl 0 rfl ?_
  refine s_aload_n F dX3_dealAnew_1 rfl 1 rfl ?_
  refine s_iconst F (v := 1) dX3_dealAnew_2 (by decide) ?_
  refine s_iload_n F dX3_dealAnew_3 rfl 2 rfl ?_
  refine s_iload_n F dX3_dealAnew_4 rfl 3 rfl ?_
  refine s_callVi (f := fun hh => f_X3_greatestOf q r1 1 x2 x3 hh) (As := [.ref (gad g r1), .int 1, .int x2, .int x3]) F yv_X3_greatestOf (ct_X3_greatestOf z.2.1 g hq hr1 1 x2 x3) (by decide) m706 hq rfl rfl rfl (Nat.le_of_ble_eq_true rfl) dX3_dealAnew_5 (fun v_2 h_1 e_v_2 => ?_)
  refine s_istore F (lv' := [(4, .int v_2), (0, .ref (gad g q)), (1, .ref (gad g r1)), (2, .int x2), (3, .int x3)]) dX3_dealAnew_8 (by decide) rfl ?_
  refine s_aload_n F dX3_dealAnew_10 rfl 1 rfl ?_
  refine s_aload_n F dX3_dealAnew_11 rfl 2 rfl ?_
  refine s_iconst F (v := 0) dX3_dealAnew_12 (by decide) ?_
  refine s_iload_n F dX3_dealAnew_13 rfl 3 rfl ?_
  refine s_iload_n F dX3_dealAnew_14 rfl 4 rfl ?_
  refine s_callVu (f := fun hh => f_X3_prepare q r1 0 x2 x3 hh) (As := [.ref (gad g r1), .int 0, .int x2, .int x3]) F yv_X3_prepare (ct_X3_prepare z.2.1 g hq hr1 0 x2 x3) (by decide) m710 hq rfl rfl rfl (Nat.le_of_ble_eq_true rfl) dX3_dealAnew_15 (fun _ h_3 e_v_4 => ?_)
  refine s_aload_n F dX3_dealAnew_18 rfl 1 rfl ?_
  refine s_callVi (f := fun hh => f_X3_countHopeful q hh) (As := []) F yv_X3_countHopeful (ct_X3_countHopeful z.2.1 g hq) (by decide) m760 hq rfl rfl rfl (Nat.le_of_ble_eq_true rfl) dX3_dealAnew_19 (fun v_6 h_5 e_v_6 => ?_)
  refine s_istore F (lv' := [(5, .int v_6), (4, .int v_2), (0, .ref (gad g q)), (1, .ref (gad g r1)), (2, .int x2), (3, .int x3)]) dX3_dealAnew_22 (by decide) rfl ?_
  refine s_aload_n F dX3_dealAnew_24 rfl 2 rfl ?_
  refine s_callVu (f := fun hh => f_X3_sortCharters q hh) (As := []) F yv_X3_sortCharters (ct_X3_sortCharters z.2.1 g hq) (by decide) m764 hq rfl rfl rfl (Nat.le_of_ble_eq_true rfl) dX3_dealAnew_25 (fun _ h_7 e_v_8 => ?_)
  refine s_iconst F (v := (-1)) dX3_dealAnew_28 (by decide) ?_
  refine s_istore F (lv' := [(6, .int (-1)), (5, .int v_6), (4, .int v_2), (0, .ref (gad g q)), (1, .ref (gad g r1)), (2, .int x2), (3, .int x3)]) dX3_dealAnew_29 (by decide) rfl ?_
  refine s_iconst F (v := 1) dX3_dealAnew_31 (by decide) ?_
  refine s_istore F (lv' := [(7, .int 1), (6, .int (-1)), (5, .int v_6), (4, .int v_2), (0, .ref (gad g q)), (1, .ref (gad g r1)), (2, .int x2), (3, .int x3)]) dX3_dealAnew_32 (by decide) rfl ?_
  refine s_iconst F (v := 0) dX3_dealAnew_34 (by decide) ?_
  refine s_istore F (lv' := [(8, .int 0), (7, .int 1), (6, .int (-1)), (5, .int v_6), (4, .int v_2), (0, .ref (gad g q)), (1, .ref (gad g r1)), (2, .int x2), (3, .int x3)]) dX3_dealAnew_35 (by decide) rfl ?_
  exact s_sub [5, 4, 3, 2, 1, 0] rfl (t_X3_dealAnew_37 F hq hr1 fu v_2 v_6 (-1) 1 0 h_7)
theorem dX3_dealtTo_0 : decode cX3_dealtTo 0 = .ok (.aload_n 0, 1) := by decide +kernel
theorem dX3_dealtTo_1 : decode cX3_dealtTo 1 = .ok (.getfield 21, 3) := by decide +kernel
theorem dX3_dealtTo_4 : decode cX3_dealtTo 4 = .ok (.iload_n 1, 1) := by decide +kernel
theorem dX3_dealtTo_5 : decode cX3_dealtTo 5 = .ok (.iaload, 1) := by decide +kernel
theorem dX3_dealtTo_6 : decode cX3_dealtTo 6 = .ok (.ireturn, 1) := by decide +kernel
theorem yv_X3_dealtTo : YV yX3_dealtTo cX3_dealtTo 2 (some .int) 1 := ⟨m777, m778, m7, m779, ⟨by decide +kernel, by decide +kernel, by decide +kernel⟩, by decide⟩
noncomputable def f_X3_dealtTo (q : Nat) (x1 : Int32) (h : AH) : Option (Int32 × AH) := ck x1 6 (some (h (q + 4) (x1 : Int32).toNatClampNeg, h))
set_option maxRecDepth 20000 in
set_option maxHeartbeats 4000000 in
theorem ct_X3_dealtTo (l : Launch) (g : GC) {q : Nat} (hq : (gL g)[q]? = some (.inl 3)) (x1 : Int32) : Ct l yX3_dealtTo cX3_dealtTo 2 (some .int) 1 [.ref (gad g q), .int x1] g mkI (fun h => f_X3_dealtTo q x1 h) := by
  refine Ct.of (by decide +kernel) (Nat.le_of_ble_eq_true rfl) (fun z A h _ F => ?_)
  show Snd z 2 g A (QF z g A mkI) 0 [(0, .ref (gad g q)), (1, .int x1)] [] h (f_X3_dealtTo q x1 h)
  unfold f_X3_dealtTo
  refine s_aload_n F dX3_dealtTo_0 rfl 0 rfl ?_
  have hw_1 := wf_ref F.2.2.2.2.2.2.1 hq 3 4 (.inr (0, 6)) rfl
  refine s_getr F ciX3 3 4 (.inr (0, 6)) hq (by decide) rfl rfl m195 dX3_dealtTo_1 ?_
  refine s_iload_n F dX3_dealtTo_4 rfl 1 rfl ?_
  refine s_iald F hw_1 dX3_dealtTo_5 ?_
  exact s_iret F dX3_dealtTo_6
