theorem dX8_finding_0 : decode cX8_finding 0 = .ok (.aload_n 0, 1) := by decide +kernel
theorem dX8_finding_1 : decode cX8_finding 1 = .ok (.iload_n 1, 1) := by decide +kernel
theorem dX8_finding_2 : decode cX8_finding 2 = .ok (.putfield 69, 3) := by decide +kernel
theorem dX8_finding_5 : decode cX8_finding 5 = .ok (.ldc 72, 2) := by decide +kernel
theorem dX8_finding_7 : decode cX8_finding 7 = .ok (.iload_n 1, 1) := by decide +kernel
theorem dX8_finding_8 : decode cX8_finding 8 = .ok (.isub, 1) := by decide +kernel
theorem dX8_finding_9 : decode cX8_finding 9 = .ok (.ireturn, 1) := by decide +kernel
theorem yv_X8_finding : YV yX8_finding cX8_finding 2 (some .int) 1 := ⟨m1012, ms29, m9, m1013, ⟨by decide +kernel, by decide +kernel, by decide +kernel⟩, by decide⟩
noncomputable def f_X8_finding (q : Nat) (x1 : Int32) (h : AH) : Option (Int32 × AH) := lt (hset h q 1 x1) (fun h_1 => some (((-1000010) - x1), h_1))
set_option maxRecDepth 20000 in
set_option maxHeartbeats 4000000 in
theorem ct_X8_finding (l : Launch) (g : GC) {q : Nat} (hq : (gL g)[q]? = some (.inl 8)) (x1 : Int32) : Ct l yX8_finding cX8_finding 2 (some .int) 1 [.ref (gad g q), .int x1] g mkI (fun h => f_X8_finding q x1 h) := by
  refine Ct.of (by decide +kernel) (Nat.le_of_ble_eq_true rfl) (fun z A h _ F => ?_)
  show Snd z 2 g A (QF z g A mkI) 0 [(0, .ref (gad g q)), (1, .int x1)] [] h (f_X8_finding q x1 h)
  unfold f_X8_finding
  refine s_aload_n F dX8_finding_0 rfl 0 rfl ?_
  refine s_iload_n F dX8_finding_1 rfl 1 rfl ?_
  refine s_put F ciX8 (k := 1) hq (by decide) rfl rfl rfl rfl m894 dX8_finding_2 ?_
  refine s_letH (fun h_1 => ?_)
  refine s_ldc F (v := (-1000010)) dX8_finding_5 m1014 ?_
  refine s_iload_n F dX8_finding_7 rfl 1 rfl ?_
  refine s_isub F dX8_finding_8 ?_
  exact s_iret F dX8_finding_9
theorem dX8_in_0 : decode cX8_in 0 = .ok (.lload_n 0, 1) := by decide +kernel
theorem dX8_in_1 : decode cX8_in 1 = .ok (.lload_n 2, 1) := by decide +kernel
theorem dX8_in_2 : decode cX8_in 2 = .ok (.lcmp, 1) := by decide +kernel
theorem dX8_in_3 : decode cX8_in 3 = .ok (.ifCond .lt 14, 3) := by decide +kernel
theorem dX8_in_6 : decode cX8_in 6 = .ok (.lload_n 0, 1) := by decide +kernel
theorem dX8_in_7 : decode cX8_in 7 = .ok (.lload 4, 2) := by decide +kernel
theorem dX8_in_9 : decode cX8_in 9 = .ok (.lcmp, 1) := by decide +kernel
theorem dX8_in_10 : decode cX8_in 10 = .ok (.ifCond .gt 7, 3) := by decide +kernel
theorem dX8_in_13 : decode cX8_in 13 = .ok (.iconst 1, 1) := by decide +kernel
theorem dX8_in_14 : decode cX8_in 14 = .ok (.goto 4, 3) := by decide +kernel
theorem dX8_in_17 : decode cX8_in 17 = .ok (.iconst 0, 1) := by decide +kernel
theorem dX8_in_18 : decode cX8_in 18 = .ok (.ireturn, 1) := by decide +kernel
theorem ys_X8_in : YS yX8_in cX8_in 6 (some .boolean) 3 := ⟨m1006, m9, m1007, ⟨by decide +kernel, by decide +kernel, by decide +kernel⟩, by decide⟩
noncomputable def f_X8_in (x0 : Int64) (x2 : Int64) (x4 : Int64) (h : AH) : Option (Int32 × AH) := if (lg_cmp x0 x2) < 0 then (some (0, h)) else (if (0 : Int32) < (lg_cmp x0 x4) then (some (0, h)) else (some (1, h)))
set_option maxRecDepth 20000 in
set_option maxHeartbeats 4000000 in
theorem ct_X8_in (l : Launch) (g : GC) (x0 : Int64) (x2 : Int64) (x4 : Int64) : Ct l yX8_in cX8_in 6 (some .boolean) 1 [.long x0, .long x2, .long x4] g mkI (fun h => f_X8_in x0 x2 x4 h) := by
  refine Ct.of (by decide +kernel) (Nat.le_of_ble_eq_true rfl) (fun z A h _ F => ?_)
  show Snd z 6 g A (QF z g A mkI) 0 [(0, .long x0), (2, .long x2), (4, .long x4)] [] h (f_X8_in x0 x2 x4 h)
  unfold f_X8_in
  refine s_lload_n F dX8_in_0 rfl 0 rfl ?_
  refine s_lload_n F dX8_in_1 rfl 1 rfl ?_
  refine s_lcmp F dX8_in_2 ?_
  refine s_if_lt F 17 dX8_in_3 (by decide) (fun _ => ?_) (fun _ => ?_)
  · refine s_iconst F (v := 0) dX8_in_17 (by decide) ?_
    exact s_zret1 F (by decide) dX8_in_18
  · refine s_lload_n F dX8_in_6 rfl 0 rfl ?_
    refine s_lload F dX8_in_7 2 rfl ?_
    refine s_lcmp F dX8_in_9 ?_
    refine s_if_gt F 17 dX8_in_10 (by decide) (fun _ => ?_) (fun _ => ?_)
    · refine s_iconst F (v := 0) dX8_in_17 (by decide) ?_
      exact s_zret1 F (by decide) dX8_in_18
    · refine s_iconst F (v := 1) dX8_in_13 (by decide) ?_
      refine s_goto F 18 dX8_in_14 (by decide) ?_
      exact s_zret1 F (by decide) dX8_in_18
theorem dX8_isRow_0 : decode cX8_isRow 0 = .ok (.iload_n 0, 1) := by decide +kernel
theorem dX8_isRow_1 : decode cX8_isRow 1 = .ok (.i2l, 1) := by decide +kernel
theorem dX8_isRow_2 : decode cX8_isRow 2 = .ok (.lconst 0, 1) := by decide +kernel
theorem dX8_isRow_3 : decode cX8_isRow 3 = .ok (.ldc2_w 73, 3) := by decide +kernel
theorem dX8_isRow_6 : decode cX8_isRow 6 = .ok (.invokestatic 75, 3) := by decide +kernel
theorem dX8_isRow_9 : decode cX8_isRow 9 = .ok (.ireturn, 1) := by decide +kernel
theorem ys_X8_isRow : YS yX8_isRow cX8_isRow 1 (some .boolean) 1 := ⟨m1002, m9, m1003, ⟨by decide +kernel, by decide +kernel, by decide +kernel⟩, by decide⟩
noncomputable def f_X8_isRow (x0 : Int32) (h : AH) : Option (Int32 × AH) := bd (f_X8_in ((x0 : Int32).toInt64) 0 7 h) (fun v_2 h_1 => gz v_2 (some (v_2, h_1)))
set_option maxRecDepth 20000 in
set_option maxHeartbeats 4000000 in
theorem ct_X8_isRow (l : Launch) (g : GC) (x0 : Int32) : Ct l yX8_isRow cX8_isRow 1 (some .boolean) 2 [.int x0] g mkI (fun h => f_X8_isRow x0 h) := by
  refine Ct.of (by decide +kernel) (Nat.le_of_ble_eq_true rfl) (fun z A h _ F => ?_)
  show Snd z 1 g A (QF z g A mkI) 0 [(0, .int x0)] [] h (f_X8_isRow x0 h)
  unfold f_X8_isRow
  refine s_iload_n F dX8_isRow_0 rfl 0 rfl ?_
  refine s_i2l F dX8_isRow_1 ?_
  refine s_lconst F (v := 0) dX8_isRow_2 (by decide) ?_
  refine s_ldc2 F (v := 7) dX8_isRow_3 m1004 ?_
  refine s_callSi (f := fun hh => f_X8_in ((x0 : Int32).toInt64) 0 7 hh) (As := [.long ((x0 : Int32).toInt64), .long 0, .long 7]) F ys_X8_in (ct_X8_in z.2.1 g ((x0 : Int32).toInt64) 0 7) (by decide) m1005 rfl rfl (Nat.le_of_ble_eq_true rfl) dX8_isRow_6 (fun v_2 h_1 e_v_2 => ?_)
  exact s_zret F dX8_isRow_9
theorem dX8_row_0 : decode cX8_row 0 = .ok (.aload_n 0, 1) := by decide +kernel
theorem dX8_row_1 : decode cX8_row 1 = .ok (.iconst 0, 1) := by decide +kernel
theorem dX8_row_2 : decode cX8_row 2 = .ok (.putfield 65, 3) := by decide +kernel
theorem dX8_row_5 : decode cX8_row 5 = .ok (.iload_n 1, 1) := by decide +kernel
theorem dX8_row_6 : decode cX8_row 6 = .ok (.invokestatic 79, 3) := by decide +kernel
theorem dX8_row_9 : decode cX8_row 9 = .ok (.ifCond .eq 21, 3) := by decide +kernel
theorem dX8_row_12 : decode cX8_row 12 = .ok (.iload_n 2, 1) := by decide +kernel
theorem dX8_row_13 : decode cX8_row 13 = .ok (.i2l, 1) := by decide +kernel
theorem dX8_row_14 : decode cX8_row 14 = .ok (.lconst 0, 1) := by decide +kernel
theorem dX8_row_15 : decode cX8_row 15 = .ok (.ldc2_w 83, 3) := by decide +kernel
theorem dX8_row_18 : decode cX8_row 18 = .ok (.invokestatic 75, 3) := by decide +kernel
theorem dX8_row_21 : decode cX8_row 21 = .ok (.ifCond .eq 9, 3) := by decide +kernel
theorem dX8_row_24 : decode cX8_row 24 = .ok (.iload_n 3, 1) := by decide +kernel
theorem dX8_row_25 : decode cX8_row 25 = .ok (.bipush 40, 2) := by decide +kernel
theorem dX8_row_27 : decode cX8_row 27 = .ok (.if_icmp .le 6, 3) := by decide +kernel
theorem dX8_row_30 : decode cX8_row 30 = .ok (.ldc 85, 2) := by decide +kernel
theorem dX8_row_32 : decode cX8_row 32 = .ok (.ireturn, 1) := by decide +kernel
theorem dX8_row_33 : decode cX8_row 33 = .ok (.aload_n 0, 1) := by decide +kernel
theorem dX8_row_34 : decode cX8_row 34 = .ok (.iconst 0, 1) := by decide +kernel
theorem dX8_row_35 : decode cX8_row 35 = .ok (.putfield 69, 3) := by decide +kernel
theorem dX8_row_38 : decode cX8_row 38 = .ok (.iload_n 3, 1) := by decide +kernel
theorem dX8_row_39 : decode cX8_row 39 = .ok (.ifCond .ge 9, 3) := by decide +kernel
theorem dX8_row_42 : decode cX8_row 42 = .ok (.aload_n 0, 1) := by decide +kernel
theorem dX8_row_43 : decode cX8_row 43 = .ok (.iconst 4, 1) := by decide +kernel
theorem dX8_row_44 : decode cX8_row 44 = .ok (.invokevirtual 86, 3) := by decide +kernel
theorem dX8_row_47 : decode cX8_row 47 = .ok (.ireturn, 1) := by decide +kernel
theorem dX8_row_48 : decode cX8_row 48 = .ok (.aload_n 0, 1) := by decide +kernel
theorem dX8_row_49 : decode cX8_row 49 = .ok (.getfield 7, 3) := by decide +kernel
theorem dX8_row_52 : decode cX8_row 52 = .ok (.iload_n 1, 1) := by decide +kernel
theorem dX8_row_53 : decode cX8_row 53 = .ok (.iload_n 2, 1) := by decide +kernel
theorem dX8_row_54 : decode cX8_row 54 = .ok (.iastore, 1) := by decide +kernel
theorem dX8_row_55 : decode cX8_row 55 = .ok (.aload_n 0, 1) := by decide +kernel
theorem dX8_row_56 : decode cX8_row 56 = .ok (.getfield 13, 3) := by decide +kernel
theorem dX8_row_59 : decode cX8_row 59 = .ok (.iload_n 1, 1) := by decide +kernel
theorem dX8_row_60 : decode cX8_row 60 = .ok (.iload_n 3, 1) := by decide +kernel
theorem dX8_row_61 : decode cX8_row 61 = .ok (.iastore, 1) := by decide +kernel
theorem dX8_row_62 : decode cX8_row 62 = .ok (.iconst 0, 1) := by decide +kernel
theorem dX8_row_63 : decode cX8_row 63 = .ok (.istore 4, 2) := by decide +kernel
theorem dX8_row_65 : decode cX8_row 65 = .ok (.iload 4, 2) := by decide +kernel
theorem dX8_row_67 : decode cX8_row 67 = .ok (.bipush 40, 2) := by decide +kernel
theorem dX8_row_69 : decode cX8_row 69 = .ok (.if_icmp .ge 22, 3) := by decide +kernel
theorem dX8_row_72 : decode cX8_row 72 = .ok (.aload_n 0, 1) := by decide +kernel
theorem dX8_row_73 : decode cX8_row 73 = .ok (.getfield 16, 3) := by decide +kernel
theorem dX8_row_76 : decode cX8_row 76 = .ok (.bipush 40, 2) := by decide +kernel
theorem dX8_row_78 : decode cX8_row 78 = .ok (.iload_n 1, 1) := by decide +kernel
theorem dX8_row_79 : decode cX8_row 79 = .ok (.imul, 1) := by decide +kernel
theorem dX8_row_80 : decode cX8_row 80 = .ok (.iload 4, 2) := by decide +kernel
theorem dX8_row_82 : decode cX8_row 82 = .ok (.iadd, 1) := by decide +kernel
theorem dX8_row_83 : decode cX8_row 83 = .ok (.iconst 0, 1) := by decide +kernel
theorem dX8_row_84 : decode cX8_row 84 = .ok (.iastore, 1) := by decide +kernel
theorem dX8_row_85 : decode cX8_row 85 = .ok (.iinc 4 1, 3) := by decide +kernel
theorem dX8_row_88 : decode cX8_row 88 = .ok (.goto (-23), 3) := by decide +kernel
theorem dX8_row_91 : decode cX8_row 91 = .ok (.iload_n 3, 1) := by decide +kernel
theorem dX8_row_92 : decode cX8_row 92 = .ok (.ireturn, 1) := by decide +kernel
theorem yv_X8_row : YV yX8_row cX8_row 5 (some .int) 3 := ⟨m998, m999, m9, m1000, ⟨by decide +kernel, by decide +kernel, by decide +kernel⟩, by decide⟩
noncomputable def f_X8_row_65 (q : Nat) : Nat → Int32 → Int32 → Int32 → AH → Option (Int32 × AH)
  | 0, _, _, _, _ => none
  | n + 1, x1, x3, x4, h => if (40 : Int32) ≤ x4 then (some (x3, h)) else (lt (((40 * x1) + x4)) (fun v_2 => ck v_2 320 (lt (hset h (q + 3) (v_2 : Int32).toNatClampNeg 0) (fun h_3 => lt (x4 + 1) (fun v_4 => (f_X8_row_65 q n) x1 x3 v_4 h_3)))))
set_option maxRecDepth 20000 in
set_option maxHeartbeats 4000000 in
theorem t_X8_row_65 {z : MC} {g : GC} {A : Nat → Prop} (F : Fx z cX8_row 5 RX8 (some .int) 3 g A) {q : Nat} (hq : (gL g)[q]? = some (.inl 8)) : ∀ (n : Nat) (x1 : Int32) (x3 : Int32) (x4 : Int32) (h : AH), Snd z 5 g A (QF z g A mkI) 65 [(0, .ref (gad g q)), (1, .int x1), (3, .int x3), (4, .int x4)] [] h (f_X8_row_65 q n x1 x3 x4 h) := by
  intro n
  induction n with
  | zero => intros; exact s_none
  | succ n ih =>
    intro x1 x3 x4 h
    unfold f_X8_row_65
    refine s_iload F dX8_row_65 3 rfl ?_
    refine s_bipush F (v := 40) dX8_row_67 (by decide) ?_
    refine s_icmp_ge F 91 dX8_row_69 (by decide) (fun _ => ?_) (fun _ => ?_)
    · refine s_iload_n F dX8_row_91 rfl 2 rfl ?_
      exact s_iret F dX8_row_92
    · refine s_aload_n F dX8_row_72 rfl 0 rfl ?_
      have hw_1 := wf_ref F.2.2.2.2.2.2.1 hq 4 3 (.inr (0, 320)) rfl
      refine s_getr F ciX8 4 3 (.inr (0, 320)) hq (by decide) rfl rfl m897 dX8_row_73 ?_
      refine s_bipush F (v := 40) dX8_row_76 (by decide) ?_
      refine s_iload_n F dX8_row_78 rfl 1 rfl ?_
      refine s_imul F dX8_row_79 ?_
      refine s_iload F dX8_row_80 3 rfl ?_
      refine s_iadd F dX8_row_82 ?_
      refine s_iconst F (v := 0) dX8_row_83 (by decide) ?_
      refine s_leti2 (fun v_2 => ?_)
      refine s_iast F hw_1 dX8_row_84 ?_
      refine s_letH (fun h_3 => ?_)
      refine s_iincv F dX8_row_85 3 rfl (by decide) (c := 1) (by decide) (fun v_4 => ?_)
      refine s_lv (lv' := [(4, .int v_4), (0, .ref (gad g q)), (1, .int x1), (3, .int x3)]) rfl ?_
      refine s_goto F 65 dX8_row_88 (by decide) ?_
      exact s_sub [1, 2, 3, 0] rfl (ih x1 x3 v_4 h_3)
noncomputable def f_X8_row (q : Nat) (x1 : Int32) (x2 : Int32) (x3 : Int32) (h : AH) : Option (Int32 × AH) := lt (hset h q 0 0) (fun h_1 => bd (f_X8_isRow x1 h_1) (fun v_3 h_2 => if v_3 = 0 then (some ((-1000001), h_2)) else (bd (f_X8_in ((x2 : Int32).toInt64) 0 2 h_2) (fun v_5 h_4 => if v_5 = 0 then (some ((-1000001), h_4)) else (if x3 ≤ 40 then (lt (hset h_4 q 1 0) (fun h_6 => if (0 : Int32) ≤ x3 then (ck x1 8 (lt (hset h_6 (q + 1) (x1 : Int32).toNatClampNeg x2) (fun h_8 => ck x1 8 (lt (hset h_8 (q + 2) (x1 : Int32).toNatClampNeg x3) (fun h_10 => f_X8_row_65 q fu x1 x3 0 h_10))))) else (bd (f_X8_finding q 4 h_6) (fun v_12 h_11 => some (v_12, h_11))))) else (some ((-1000001), h_4)))))))
set_option maxRecDepth 20000 in
set_option maxHeartbeats 4000000 in
theorem ct_X8_row (l : Launch) (g : GC) {q : Nat} (hq : (gL g)[q]? = some (.inl 8)) (x1 : Int32) (x2 : Int32) (x3 : Int32) : Ct l yX8_row cX8_row 5 (some .int) 3 [.ref (gad g q), .int x1, .int x2, .int x3] g mkI (fun h => f_X8_row q x1 x2 x3 h) := by
  refine Ct.of (by decide +kernel) (Nat.le_of_ble_eq_true rfl) (fun z A h _ F => ?_)
  show Snd z 5 g A (QF z g A mkI) 0 [(0, .ref (gad g q)), (1, .int x1), (2, .int x2), (3, .int x3)] [] h (f_X8_row q x1 x2 x3 h)
  unfold f_X8_row
  refine s_aload_n F dX8_row_0 rfl 0 rfl ?_
  refine s_iconst F (v := 0) dX8_row_1 (by decide) ?_
  refine s_put F ciX8 (k := 0) hq (by decide) rfl rfl rfl rfl m893 dX8_row_2 ?_
  refine s_letH (fun h_1 => ?_)
  refine s_iload_n F dX8_row_5 rfl 1 rfl ?_
  refine s_callSi (f := fun hh => f_X8_isRow x1 hh) (As := [.int x1]) F ys_X8_isRow (ct_X8_isRow z.2.1 g x1) (by decide) m1001 rfl rfl (Nat.le_of_ble_eq_true rfl) dX8_row_6 (fun v_3 h_2 e_v_3 => ?_)
  refine s_if_eq F 30 dX8_row_9 (by decide) (fun _ => ?_) (fun _ => ?_)
  · refine s_ldc F (v := (-1000001)) dX8_row_30 m1009 ?_
    exact s_iret F dX8_row_32
  · refine s_iload_n F dX8_row_12 rfl 2 rfl ?_
    refine s_i2l F dX8_row_13 ?_
    refine s_lconst F (v := 0) dX8_row_14 (by decide) ?_
    refine s_ldc2 F (v := 2) dX8_row_15 m1008 ?_
    refine s_callSi (f := fun hh => f_X8_in ((x2 : Int32).toInt64) 0 2 hh) (As := [.long ((x2 : Int32).toInt64), .long 0, .long 2]) F ys_X8_in (ct_X8_in z.2.1 g ((x2 : Int32).toInt64) 0 2) (by decide) m1005 rfl rfl (Nat.le_of_ble_eq_true rfl) dX8_row_18 (fun v_5 h_4 e_v_5 => ?_)
    refine s_if_eq F 30 dX8_row_21 (by decide) (fun _ => ?_) (fun _ => ?_)
    · refine s_ldc F (v := (-1000001)) dX8_row_30 m1009 ?_
      exact s_iret F dX8_row_32
    · refine s_iload_n F dX8_row_24 rfl 3 rfl ?_
      refine s_bipush F (v := 40) dX8_row_25 (by decide) ?_
      refine s_icmp_le F 33 dX8_row_27 (by decide) (fun _ => ?_) (fun _ => ?_)
      · refine s_aload_n F dX8_row_33 rfl 0 rfl ?_
        refine s_iconst F (v := 0) dX8_row_34 (by decide) ?_
        refine s_put F ciX8 (k := 1) hq (by decide) rfl rfl rfl rfl m894 dX8_row_35 ?_
        refine s_letH (fun h_6 => ?_)
        refine s_iload_n F dX8_row_38 rfl 3 rfl ?_
        refine s_if_ge F 48 dX8_row_39 (by decide) (fun _ => ?_) (fun _ => ?_)
        · refine s_aload_n F dX8_row_48 rfl 0 rfl ?_
          have hw_7 := wf_ref F.2.2.2.2.2.2.1 hq 2 1 (.inr (0, 8)) rfl
          refine s_getr F ciX8 2 1 (.inr (0, 8)) hq (by decide) rfl rfl m895 dX8_row_49 ?_
          refine s_iload_n F dX8_row_52 rfl 1 rfl ?_
          refine s_iload_n F dX8_row_53 rfl 2 rfl ?_
          refine s_iast F hw_7 dX8_row_54 ?_
          refine s_letH (fun h_8 => ?_)
          refine s_aload_n F dX8_row_55 rfl 0 rfl ?_
          have hw_9 := wf_ref F.2.2.2.2.2.2.1 hq 3 2 (.inr (0, 8)) rfl
          refine s_getr F ciX8 3 2 (.inr (0, 8)) hq (by decide) rfl rfl m896 dX8_row_56 ?_
          refine s_iload_n F dX8_row_59 rfl 1 rfl ?_
          refine s_iload_n F dX8_row_60 rfl 3 rfl ?_
          refine s_iast F hw_9 dX8_row_61 ?_
          refine s_letH (fun h_10 => ?_)
          refine s_iconst F (v := 0) dX8_row_62 (by decide) ?_
          refine s_istore F (lv' := [(4, .int 0), (0, .ref (gad g q)), (1, .int x1), (2, .int x2), (3, .int x3)]) dX8_row_63 (by decide) rfl ?_
          exact s_sub [1, 2, 4, 0] rfl (t_X8_row_65 F hq fu x1 x3 0 h_10)
        · refine s_aload_n F dX8_row_42 rfl 0 rfl ?_
          refine s_iconst F (v := 4) dX8_row_43 (by decide) ?_
          refine s_callVi (f := fun hh => f_X8_finding q 4 hh) (As := [.int 4]) F yv_X8_finding (ct_X8_finding z.2.1 g hq 4) (by decide) m1010 hq rfl rfl rfl (Nat.le_of_ble_eq_true rfl) dX8_row_44 (fun v_12 h_11 e_v_12 => ?_)
          exact s_iret F dX8_row_47
      · refine s_ldc F (v := (-1000001)) dX8_row_30 m1009 ?_
        exact s_iret F dX8_row_32
theorem dX8_set_0 : decode cX8_set 0 = .ok (.aload_n 0, 1) := by decide +kernel
theorem dX8_set_1 : decode cX8_set 1 = .ok (.iconst 0, 1) := by decide +kernel
theorem dX8_set_2 : decode cX8_set 2 = .ok (.putfield 65, 3) := by decide +kernel
theorem dX8_set_5 : decode cX8_set 5 = .ok (.iload_n 1, 1) := by decide +kernel
theorem dX8_set_6 : decode cX8_set 6 = .ok (.invokestatic 79, 3) := by decide +kernel
theorem dX8_set_9 : decode cX8_set 9 = .ok (.ifCond .ne 6, 3) := by decide +kernel
theorem dX8_set_12 : decode cX8_set 12 = .ok (.ldc 85, 2) := by decide +kernel
theorem dX8_set_14 : decode cX8_set 14 = .ok (.ireturn, 1) := by decide +kernel
theorem dX8_set_15 : decode cX8_set 15 = .ok (.aload_n 0, 1) := by decide +kernel
theorem dX8_set_16 : decode cX8_set 16 = .ok (.iconst 0, 1) := by decide +kernel
theorem dX8_set_17 : decode cX8_set 17 = .ok (.putfield 69, 3) := by decide +kernel
theorem dX8_set_20 : decode cX8_set 20 = .ok (.aload_n 0, 1) := by decide +kernel
theorem dX8_set_21 : decode cX8_set 21 = .ok (.getfield 7, 3) := by decide +kernel
theorem dX8_set_24 : decode cX8_set 24 = .ok (.iload_n 1, 1) := by decide +kernel
theorem dX8_set_25 : decode cX8_set 25 = .ok (.iaload, 1) := by decide +kernel
theorem dX8_set_26 : decode cX8_set 26 = .ok (.ifCond .ge 9, 3) := by decide +kernel
theorem dX8_set_29 : decode cX8_set 29 = .ok (.aload_n 0, 1) := by decide +kernel
theorem dX8_set_30 : decode cX8_set 30 = .ok (.iconst 1, 1) := by decide +kernel
theorem dX8_set_31 : decode cX8_set 31 = .ok (.invokevirtual 86, 3) := by decide +kernel
theorem dX8_set_34 : decode cX8_set 34 = .ok (.ireturn, 1) := by decide +kernel
theorem dX8_set_35 : decode cX8_set 35 = .ok (.iload_n 2, 1) := by decide +kernel
theorem dX8_set_36 : decode cX8_set 36 = .ok (.i2l, 1) := by decide +kernel
theorem dX8_set_37 : decode cX8_set 37 = .ok (.lconst 0, 1) := by decide +kernel
theorem dX8_set_38 : decode cX8_set 38 = .ok (.aload_n 0, 1) := by decide +kernel
theorem dX8_set_39 : decode cX8_set 39 = .ok (.getfield 13, 3) := by decide +kernel
theorem dX8_set_42 : decode cX8_set 42 = .ok (.iload_n 1, 1) := by decide +kernel
theorem dX8_set_43 : decode cX8_set 43 = .ok (.iaload, 1) := by decide +kernel
theorem dX8_set_44 : decode cX8_set 44 = .ok (.iconst 1, 1) := by decide +kernel
theorem dX8_set_45 : decode cX8_set 45 = .ok (.isub, 1) := by decide +kernel
theorem dX8_set_46 : decode cX8_set 46 = .ok (.i2l, 1) := by decide +kernel
theorem dX8_set_47 : decode cX8_set 47 = .ok (.invokestatic 75, 3) := by decide +kernel
theorem dX8_set_50 : decode cX8_set 50 = .ok (.ifCond .ne 9, 3) := by decide +kernel
theorem dX8_set_53 : decode cX8_set 53 = .ok (.aload_n 0, 1) := by decide +kernel
theorem dX8_set_54 : decode cX8_set 54 = .ok (.iconst 2, 1) := by decide +kernel
theorem dX8_set_55 : decode cX8_set 55 = .ok (.invokevirtual 86, 3) := by decide +kernel
theorem dX8_set_58 : decode cX8_set 58 = .ok (.ireturn, 1) := by decide +kernel
theorem dX8_set_59 : decode cX8_set 59 = .ok (.aload_n 0, 1) := by decide +kernel
theorem dX8_set_60 : decode cX8_set 60 = .ok (.getfield 16, 3) := by decide +kernel
theorem dX8_set_63 : decode cX8_set 63 = .ok (.bipush 40, 2) := by decide +kernel
theorem dX8_set_65 : decode cX8_set 65 = .ok (.iload_n 1, 1) := by decide +kernel
theorem dX8_set_66 : decode cX8_set 66 = .ok (.imul, 1) := by decide +kernel
theorem dX8_set_67 : decode cX8_set 67 = .ok (.iload_n 2, 1) := by decide +kernel
theorem dX8_set_68 : decode cX8_set 68 = .ok (.iadd, 1) := by decide +kernel
theorem dX8_set_69 : decode cX8_set 69 = .ok (.aload_n 0, 1) := by decide +kernel
theorem dX8_set_70 : decode cX8_set 70 = .ok (.getfield 7, 3) := by decide +kernel
theorem dX8_set_73 : decode cX8_set 73 = .ok (.iload_n 1, 1) := by decide +kernel
theorem dX8_set_74 : decode cX8_set 74 = .ok (.iaload, 1) := by decide +kernel
theorem dX8_set_75 : decode cX8_set 75 = .ok (.ifCond .ne 8, 3) := by decide +kernel
theorem dX8_set_78 : decode cX8_set 78 = .ok (.iload_n 3, 1) := by decide +kernel
theorem dX8_set_79 : decode cX8_set 79 = .ok (.i2b, 1) := by decide +kernel
theorem dX8_set_80 : decode cX8_set 80 = .ok (.goto 19, 3) := by decide +kernel
theorem dX8_set_83 : decode cX8_set 83 = .ok (.aload_n 0, 1) := by decide +kernel
theorem dX8_set_84 : decode cX8_set 84 = .ok (.getfield 7, 3) := by decide +kernel
theorem dX8_set_87 : decode cX8_set 87 = .ok (.iload_n 1, 1) := by decide +kernel
theorem dX8_set_88 : decode cX8_set 88 = .ok (.iaload, 1) := by decide +kernel
theorem dX8_set_89 : decode cX8_set 89 = .ok (.iconst 1, 1) := by decide +kernel
theorem dX8_set_90 : decode cX8_set 90 = .ok (.if_icmp .ne 8, 3) := by decide +kernel
theorem dX8_set_93 : decode cX8_set 93 = .ok (.iload_n 3, 1) := by decide +kernel
theorem dX8_set_94 : decode cX8_set 94 = .ok (.i2s, 1) := by decide +kernel
theorem dX8_set_95 : decode cX8_set 95 = .ok (.goto 4, 3) := by decide +kernel
theorem dX8_set_98 : decode cX8_set 98 = .ok (.iload_n 3, 1) := by decide +kernel
theorem dX8_set_99 : decode cX8_set 99 = .ok (.iastore, 1) := by decide +kernel
theorem dX8_set_100 : decode cX8_set 100 = .ok (.aload_n 0, 1) := by decide +kernel
theorem dX8_set_101 : decode cX8_set 101 = .ok (.getfield 16, 3) := by decide +kernel
theorem dX8_set_104 : decode cX8_set 104 = .ok (.bipush 40, 2) := by decide +kernel
theorem dX8_set_106 : decode cX8_set 106 = .ok (.iload_n 1, 1) := by decide +kernel
theorem dX8_set_107 : decode cX8_set 107 = .ok (.imul, 1) := by decide +kernel
theorem dX8_set_108 : decode cX8_set 108 = .ok (.iload_n 2, 1) := by decide +kernel
theorem dX8_set_109 : decode cX8_set 109 = .ok (.iadd, 1) := by decide +kernel
theorem dX8_set_110 : decode cX8_set 110 = .ok (.iaload, 1) := by decide +kernel
theorem dX8_set_111 : decode cX8_set 111 = .ok (.ireturn, 1) := by decide +kernel
theorem yv_X8_set : YV yX8_set cX8_set 4 (some .int) 3 := ⟨m1016, m1017, m9, m1018, ⟨by decide +kernel, by decide +kernel, by decide +kernel⟩, by decide⟩
noncomputable def f_X8_set_99 (q : Nat) (x1 : Int32) (x2 : Int32) (y0 : Int32) (y1 : Int32) (h : AH) : Option (Int32 × AH) := ck y1 320 (lt (hset h (q + 3) (y1 : Int32).toNatClampNeg y0) (fun h_1 => lt (((40 * x1) + x2)) (fun v_3 => ck v_3 320 (some (h_1 (q + 3) (v_3 : Int32).toNatClampNeg, h_1)))))
set_option maxRecDepth 20000 in
set_option maxHeartbeats 4000000 in
theorem t_X8_set_99 {z : MC} {g : GC} {A : Nat → Prop} (F : Fx z cX8_set 4 RX8 (some .int) 3 g A) {q : Nat} (hq : (gL g)[q]? = some (.inl 8)) : ∀ (x1 : Int32) (x2 : Int32) (y0 : Int32) (y1 : Int32) (h : AH), Snd z 4 g A (QF z g A mkI) 99 [(0, .ref (gad g q)), (1, .int x1), (2, .int x2)] [.int y0, .int y1, .ref (gad g (q + 3))] h (f_X8_set_99 q x1 x2 y0 y1 h) := by
  intro x1 x2 y0 y1 h
  unfold f_X8_set_99
  have hs2_3 := wf_ref F.2.2.2.2.2.2.1 hq 4 3 (.inr (0, 320)) rfl
  refine s_iast F hs2_3 dX8_set_99 ?_
  refine s_letH (fun h_1 => ?_)
  refine s_aload_n F dX8_set_100 rfl 0 rfl ?_
  have hw_2 := wf_ref F.2.2.2.2.2.2.1 hq 4 3 (.inr (0, 320)) rfl
  refine s_getr F ciX8 4 3 (.inr (0, 320)) hq (by decide) rfl rfl m897 dX8_set_101 ?_
  refine s_bipush F (v := 40) dX8_set_104 (by decide) ?_
  refine s_iload_n F dX8_set_106 rfl 1 rfl ?_
  refine s_imul F dX8_set_107 ?_
  refine s_iload_n F dX8_set_108 rfl 2 rfl ?_
  refine s_iadd F dX8_set_109 ?_
  refine s_leti (fun v_3 => ?_)
  refine s_iald F hw_2 dX8_set_110 ?_
  exact s_iret F dX8_set_111
noncomputable def f_X8_set (q : Nat) (x1 : Int32) (x2 : Int32) (x3 : Int32) (h : AH) : Option (Int32 × AH) := lt (hset h q 0 0) (fun h_1 => bd (f_X8_isRow x1 h_1) (fun v_3 h_2 => if v_3 = 0 then (some ((-1000001), h_2)) else (lt (hset h_2 q 1 0) (fun h_4 => ck x1 8 (if (0 : Int32) ≤ (h_4 (q + 1) (x1 : Int32).toNatClampNeg) then (ck x1 8 (bd (f_X8_in ((x2 : Int32).toInt64) 0 ((((h_4 (q + 2) (x1 : Int32).toNatClampNeg) - 1) : Int32).toInt64) h_4) (fun v_8 h_7 => if v_8 = 0 then (bd (f_X8_finding q 2 h_7) (fun v_13 h_12 => some (v_13, h_12))) else (ck x1 8 (if (h_7 (q + 1) (x1 : Int32).toNatClampNeg) = 0 then (f_X8_set_99 q x1 x2 ((x3 : Int32).toInt8.toInt32) ((40 * x1) + x2) h_7) else (ck x1 8 (if (h_7 (q + 1) (x1 : Int32).toNatClampNeg) = 1 then (f_X8_set_99 q x1 x2 ((x3 : Int32).toInt16.toInt32) ((40 * x1) + x2) h_7) else (f_X8_set_99 q x1 x2 x3 ((40 * x1) + x2) h_7)))))))) else (bd (f_X8_finding q 1 h_4) (fun v_15 h_14 => some (v_15, h_14))))))))
set_option maxRecDepth 20000 in
set_option maxHeartbeats 4000000 in
theorem ct_X8_set (l : Launch) (g : GC) {q : Nat} (hq : (gL g)[q]? = some (.inl 8)) (x1 : Int32) (x2 : Int32) (x3 : Int32) : Ct l yX8_set cX8_set 4 (some .int) 3 [.ref (gad g q), .int x1, .int x2, .int x3] g mkI (fun h => f_X8_set q x1 x2 x3 h) := by
  refine Ct.of (by decide +kernel) (Nat.le_of_ble_eq_true rfl) (fun z A h _ F => ?_)
  show Snd z 4 g A (QF z g A mkI) 0 [(0, .ref (gad g q)), (1, .int x1), (2, .int x2), (3, .int x3)] [] h (f_X8_set q x1 x2 x3 h)
  unfold f_X8_set
  refine s_aload_n F dX8_set_0 rfl 0 rfl ?_
  refine s_iconst F (v := 0) dX8_set_1 (by decide) ?_
  refine s_put F ciX8 (k := 0) hq (by decide) rfl rfl rfl rfl m893 dX8_set_2 ?_
  refine s_letH (fun h_1 => ?_)
  refine s_iload_n F dX8_set_5 rfl 1 rfl ?_
  refine s_callSi (f := fun hh => f_X8_isRow x1 hh) (As := [.int x1]) F ys_X8_isRow (ct_X8_isRow z.2.1 g x1) (by decide) m1001 rfl rfl (Nat.le_of_ble_eq_true rfl) dX8_set_6 (fun v_3 h_2 e_v_3 => ?_)
  refine s_if_ne F 15 dX8_set_9 (by decide) (fun _ => ?_) (fun _ => ?_)
  · refine s_aload_n F dX8_set_15 rfl 0 rfl ?_
    refine s_iconst F (v := 0) dX8_set_16 (by decide) ?_
    refine s_put F ciX8 (k := 1) hq (by decide) rfl rfl rfl rfl m894 dX8_set_17 ?_
    refine s_letH (fun h_4 => ?_)
    refine s_aload_n F dX8_set_20 rfl 0 rfl ?_
    have hw_5 := wf_ref F.2.2.2.2.2.2.1 hq 2 1 (.inr (0, 8)) rfl
    refine s_getr F ciX8 2 1 (.inr (0, 8)) hq (by decide) rfl rfl m895 dX8_set_21 ?_
    refine s_iload_n F dX8_set_24 rfl 1 rfl ?_
    refine s_iald F hw_5 dX8_set_25 ?_
    refine s_if_ge F 35 dX8_set_26 (by decide) (fun _ => ?_) (fun _ => ?_)
    · refine s_iload_n F dX8_set_35 rfl 2 rfl ?_
      refine s_i2l F dX8_set_36 ?_
      refine s_lconst F (v := 0) dX8_set_37 (by decide) ?_
      refine s_aload_n F dX8_set_38 rfl 0 rfl ?_
      have hw_6 := wf_ref F.2.2.2.2.2.2.1 hq 3 2 (.inr (0, 8)) rfl
      refine s_getr F ciX8 3 2 (.inr (0, 8)) hq (by decide) rfl rfl m896 dX8_set_39 ?_
      refine s_iload_n F dX8_set_42 rfl 1 rfl ?_
      refine s_iald F hw_6 dX8_set_43 ?_
      refine s_iconst F (v := 1) dX8_set_44 (by decide) ?_
      refine s_isub F dX8_set_45 ?_
      refine s_i2l F dX8_set_46 ?_
      refine s_callSi (f := fun hh => f_X8_in ((x2 : Int32).toInt64) 0 ((((h_4 (q + 2) (x1 : Int32).toNatClampNeg) - 1) : Int32).toInt64) hh) (As := [.long ((x2 : Int32).toInt64), .long 0, .long ((((h_4 (q + 2) (x1 : Int32).toNatClampNeg) - 1) : Int32).toInt64)]) F ys_X8_in (ct_X8_in z.2.1 g ((x2 : Int32).toInt64) 0 ((((h_4 (q + 2) (x1 : Int32).toNatClampNeg) - 1) : Int32).toInt64)) (by decide) m1005 rfl rfl (Nat.le_of_ble_eq_true rfl) dX8_set_47 (fun v_8 h_7 e_v_8 => ?_)
      refine s_if_ne F 59 dX8_set_50 (by decide) (fun _ => ?_) (fun _ => ?_)
      · refine s_aload_n F dX8_set_59 rfl 0 rfl ?_
        have hw_9 := wf_ref F.2.2.2.2.2.2.1 hq 4 3 (.inr (0, 320)) rfl
        refine s_getr F ciX8 4 3 (.inr (0, 320)) hq (by decide) rfl rfl m897 dX8_set_60 ?_
        refine s_bipush F (v := 40) dX8_set_63 (by decide) ?_
        refine s_iload_n F dX8_set_65 rfl 1 rfl ?_
        refine s_imul F dX8_set_66 ?_
        refine s_iload_n F dX8_set_67 rfl 2 rfl ?_
        refine s_iadd F dX8_set_68 ?_
        refine s_aload_n F dX8_set_69 rfl 0 rfl ?_
        have hw_10 := wf_ref F.2.2.2.2.2.2.1 hq 2 1 (.inr (0, 8)) rfl
        refine s_getr F ciX8 2 1 (.inr (0, 8)) hq (by decide) rfl rfl m895 dX8_set_70 ?_
        refine s_iload_n F dX8_set_73 rfl 1 rfl ?_
        refine s_iald F hw_10 dX8_set_74 ?_
        refine s_if_ne F 83 dX8_set_75 (by decide) (fun _ => ?_) (fun _ => ?_)
        · refine s_aload_n F dX8_set_83 rfl 0 rfl ?_
          have hw_11 := wf_ref F.2.2.2.2.2.2.1 hq 2 1 (.inr (0, 8)) rfl
          refine s_getr F ciX8 2 1 (.inr (0, 8)) hq (by decide) rfl rfl m895 dX8_set_84 ?_
          refine s_iload_n F dX8_set_87 rfl 1 rfl ?_
          refine s_iald F hw_11 dX8_set_88 ?_
          refine s_iconst F (v := 1) dX8_set_89 (by decide) ?_
          refine s_icmp_ne F 98 dX8_set_90 (by decide) (fun _ => ?_) (fun _ => ?_)
          · refine s_iload_n F dX8_set_98 rfl 3 rfl ?_
            exact s_sub [0, 1, 2] rfl (t_X8_set_99 F hq x1 x2 x3 ((40 * x1) + x2) h_7)
          · refine s_iload_n F dX8_set_93 rfl 3 rfl ?_
            refine s_i2s F dX8_set_94 ?_
            refine s_goto F 99 dX8_set_95 (by decide) ?_
            exact s_sub [0, 1, 2] rfl (t_X8_set_99 F hq x1 x2 ((x3 : Int32).toInt16.toInt32) ((40 * x1) + x2) h_7)
        · refine s_iload_n F dX8_set_78 rfl 3 rfl ?_
          refine s_i2b F dX8_set_79 ?_
          refine s_goto F 99 dX8_set_80 (by decide) ?_
          exact s_sub [0, 1, 2] rfl (t_X8_set_99 F hq x1 x2 ((x3 : Int32).toInt8.toInt32) ((40 * x1) + x2) h_7)
      · refine s_aload_n F dX8_set_53 rfl 0 rfl ?_
        refine s_iconst F (v := 2) dX8_set_54 (by decide) ?_
        refine s_callVi (f := fun hh => f_X8_finding q 2 hh) (As := [.int 2]) F yv_X8_finding (ct_X8_finding z.2.1 g hq 2) (by decide) m1010 hq rfl rfl rfl (Nat.le_of_ble_eq_true rfl) dX8_set_55 (fun v_13 h_12 e_v_13 => ?_)
        exact s_iret F dX8_set_58
    · refine s_aload_n F dX8_set_29 rfl 0 rfl ?_
      refine s_iconst F (v := 1) dX8_set_30 (by decide) ?_
      refine s_callVi (f := fun hh => f_X8_finding q 1 hh) (As := [.int 1]) F yv_X8_finding (ct_X8_finding z.2.1 g hq 1) (by decide) m1010 hq rfl rfl rfl (Nat.le_of_ble_eq_true rfl) dX8_set_31 (fun v_15 h_14 e_v_15 => ?_)
      exact s_iret F dX8_set_34
  · refine s_ldc F (v := (-1000001)) dX8_set_12 m1009 ?_
    exact s_iret F dX8_set_14
theorem dX8_copy_0 : decode cX8_copy 0 = .ok (.aload_n 0, 1) := by decide +kernel
theorem dX8_copy_1 : decode cX8_copy 1 = .ok (.iconst 0, 1) := by decide +kernel
theorem dX8_copy_2 : decode cX8_copy 2 = .ok (.putfield 65, 3) := by decide +kernel
theorem dX8_copy_5 : decode cX8_copy 5 = .ok (.iload_n 1, 1) := by decide +kernel
theorem dX8_copy_6 : decode cX8_copy 6 = .ok (.invokestatic 79, 3) := by decide +kernel
theorem dX8_copy_9 : decode cX8_copy 9 = .ok (.ifCond .eq 10, 3) := by decide +kernel
theorem dX8_copy_12 : decode cX8_copy 12 = .ok (.iload_n 3, 1) := by decide +kernel
theorem dX8_copy_13 : decode cX8_copy 13 = .ok (.invokestatic 79, 3) := by decide +kernel
theorem dX8_copy_16 : decode cX8_copy 16 = .ok (.ifCond .ne 6, 3) := by decide +kernel
theorem dX8_copy_19 : decode cX8_copy 19 = .ok (.ldc 85, 2) := by decide +kernel
theorem dX8_copy_21 : decode cX8_copy 21 = .ok (.ireturn, 1) := by decide +kernel
theorem dX8_copy_22 : decode cX8_copy 22 = .ok (.aload_n 0, 1) := by decide +kernel
theorem dX8_copy_23 : decode cX8_copy 23 = .ok (.iconst 0, 1) := by decide +kernel
theorem dX8_copy_24 : decode cX8_copy 24 = .ok (.putfield 69, 3) := by decide +kernel
theorem dX8_copy_27 : decode cX8_copy 27 = .ok (.aload_n 0, 1) := by decide +kernel
theorem dX8_copy_28 : decode cX8_copy 28 = .ok (.getfield 7, 3) := by decide +kernel
theorem dX8_copy_31 : decode cX8_copy 31 = .ok (.iload_n 1, 1) := by decide +kernel
theorem dX8_copy_32 : decode cX8_copy 32 = .ok (.iaload, 1) := by decide +kernel
theorem dX8_copy_33 : decode cX8_copy 33 = .ok (.ifCond .lt 12, 3) := by decide +kernel
theorem dX8_copy_36 : decode cX8_copy 36 = .ok (.aload_n 0, 1) := by decide +kernel
theorem dX8_copy_37 : decode cX8_copy 37 = .ok (.getfield 7, 3) := by decide +kernel
theorem dX8_copy_40 : decode cX8_copy 40 = .ok (.iload_n 3, 1) := by decide +kernel
theorem dX8_copy_41 : decode cX8_copy 41 = .ok (.iaload, 1) := by decide +kernel
theorem dX8_copy_42 : decode cX8_copy 42 = .ok (.ifCond .ge 9, 3) := by decide +kernel
theorem dX8_copy_45 : decode cX8_copy 45 = .ok (.aload_n 0, 1) := by decide +kernel
theorem dX8_copy_46 : decode cX8_copy 46 = .ok (.iconst 1, 1) := by decide +kernel
theorem dX8_copy_47 : decode cX8_copy 47 = .ok (.invokevirtual 86, 3) := by decide +kernel
theorem dX8_copy_50 : decode cX8_copy 50 = .ok (.ireturn, 1) := by decide +kernel
theorem dX8_copy_51 : decode cX8_copy 51 = .ok (.aload_n 0, 1) := by decide +kernel
theorem dX8_copy_52 : decode cX8_copy 52 = .ok (.getfield 7, 3) := by decide +kernel
theorem dX8_copy_55 : decode cX8_copy 55 = .ok (.iload_n 1, 1) := by decide +kernel
theorem dX8_copy_56 : decode cX8_copy 56 = .ok (.iaload, 1) := by decide +kernel
theorem dX8_copy_57 : decode cX8_copy 57 = .ok (.aload_n 0, 1) := by decide +kernel
theorem dX8_copy_58 : decode cX8_copy 58 = .ok (.getfield 7, 3) := by decide +kernel
theorem dX8_copy_61 : decode cX8_copy 61 = .ok (.iload_n 3, 1) := by decide +kernel
theorem dX8_copy_62 : decode cX8_copy 62 = .ok (.iaload, 1) := by decide +kernel
theorem dX8_copy_63 : decode cX8_copy 63 = .ok (.if_icmp .eq 9, 3) := by decide +kernel
theorem dX8_copy_66 : decode cX8_copy 66 = .ok (.aload_n 0, 1) := by decide +kernel
theorem dX8_copy_67 : decode cX8_copy 67 = .ok (.iconst 5, 1) := by decide +kernel
theorem dX8_copy_68 : decode cX8_copy 68 = .ok (.invokevirtual 86, 3) := by decide +kernel
theorem dX8_copy_71 : decode cX8_copy 71 = .ok (.ireturn, 1) := by decide +kernel
theorem dX8_copy_72 : decode cX8_copy 72 = .ok (.iload_n 2, 1) := by decide +kernel
theorem dX8_copy_73 : decode cX8_copy 73 = .ok (.ifCond .lt 48, 3) := by decide +kernel
theorem dX8_copy_76 : decode cX8_copy 76 = .ok (.iload 4, 2) := by decide +kernel
theorem dX8_copy_78 : decode cX8_copy 78 = .ok (.ifCond .lt 43, 3) := by decide +kernel
theorem dX8_copy_81 : decode cX8_copy 81 = .ok (.iload 5, 2) := by decide +kernel
theorem dX8_copy_83 : decode cX8_copy 83 = .ok (.ifCond .lt 38, 3) := by decide +kernel
theorem dX8_copy_86 : decode cX8_copy 86 = .ok (.iload_n 2, 1) := by decide +kernel
theorem dX8_copy_87 : decode cX8_copy 87 = .ok (.i2l, 1) := by decide +kernel
theorem dX8_copy_88 : decode cX8_copy 88 = .ok (.iload 5, 2) := by decide +kernel
theorem dX8_copy_90 : decode cX8_copy 90 = .ok (.i2l, 1) := by decide +kernel
theorem dX8_copy_91 : decode cX8_copy 91 = .ok (.ladd, 1) := by decide +kernel
theorem dX8_copy_92 : decode cX8_copy 92 = .ok (.aload_n 0, 1) := by decide +kernel
theorem dX8_copy_93 : decode cX8_copy 93 = .ok (.getfield 13, 3) := by decide +kernel
theorem dX8_copy_96 : decode cX8_copy 96 = .ok (.iload_n 1, 1) := by decide +kernel
theorem dX8_copy_97 : decode cX8_copy 97 = .ok (.iaload, 1) := by decide +kernel
theorem dX8_copy_98 : decode cX8_copy 98 = .ok (.i2l, 1) := by decide +kernel
theorem dX8_copy_99 : decode cX8_copy 99 = .ok (.lcmp, 1) := by decide +kernel
theorem dX8_copy_100 : decode cX8_copy 100 = .ok (.ifCond .gt 21, 3) := by decide +kernel
theorem dX8_copy_103 : decode cX8_copy 103 = .ok (.iload 4, 2) := by decide +kernel
theorem dX8_copy_105 : decode cX8_copy 105 = .ok (.i2l, 1) := by decide +kernel
theorem dX8_copy_106 : decode cX8_copy 106 = .ok (.iload 5, 2) := by decide +kernel
theorem dX8_copy_108 : decode cX8_copy 108 = .ok (.i2l, 1) := by decide +kernel
theorem dX8_copy_109 : decode cX8_copy 109 = .ok (.ladd, 1) := by decide +kernel
theorem dX8_copy_110 : decode cX8_copy 110 = .ok (.aload_n 0, 1) := by decide +kernel
theorem dX8_copy_111 : decode cX8_copy 111 = .ok (.getfield 13, 3) := by decide +kernel
theorem dX8_copy_114 : decode cX8_copy 114 = .ok (.iload_n 3, 1) := by decide +kernel
theorem dX8_copy_115 : decode cX8_copy 115 = .ok (.iaload, 1) := by decide +kernel
theorem dX8_copy_116 : decode cX8_copy 116 = .ok (.i2l, 1) := by decide +kernel
theorem dX8_copy_117 : decode cX8_copy 117 = .ok (.lcmp, 1) := by decide +kernel
theorem dX8_copy_118 : decode cX8_copy 118 = .ok (.ifCond .le 9, 3) := by decide +kernel
theorem dX8_copy_121 : decode cX8_copy 121 = .ok (.aload_n 0, 1) := by decide +kernel
theorem dX8_copy_122 : decode cX8_copy 122 = .ok (.iconst 2, 1) := by decide +kernel
theorem dX8_copy_123 : decode cX8_copy 123 = .ok (.invokevirtual 86, 3) := by decide +kernel
theorem dX8_copy_126 : decode cX8_copy 126 = .ok (.ireturn, 1) := by decide +kernel
theorem dX8_copy_127 : decode cX8_copy 127 = .ok (.iload_n 2, 1) := by decide +kernel
theorem dX8_copy_128 : decode cX8_copy 128 = .ok (.iload 4, 2) := by decide +kernel
theorem dX8_copy_130 : decode cX8_copy 130 = .ok (.if_icmp .lt 7, 3) := by decide +kernel
theorem dX8_copy_133 : decode cX8_copy 133 = .ok (.iconst 1, 1) := by decide +kernel
theorem dX8_copy_134 : decode cX8_copy 134 = .ok (.goto 4, 3) := by decide +kernel
theorem dX8_copy_137 : decode cX8_copy 137 = .ok (.iconst 0, 1) := by decide +kernel
theorem dX8_copy_138 : decode cX8_copy 138 = .ok (.istore 6, 2) := by decide +kernel
theorem dX8_copy_140 : decode cX8_copy 140 = .ok (.iconst 0, 1) := by decide +kernel
theorem dX8_copy_141 : decode cX8_copy 141 = .ok (.istore 7, 2) := by decide +kernel
theorem dX8_copy_143 : decode cX8_copy 143 = .ok (.iload 7, 2) := by decide +kernel
theorem dX8_copy_145 : decode cX8_copy 145 = .ok (.iload 5, 2) := by decide +kernel
theorem dX8_copy_147 : decode cX8_copy 147 = .ok (.if_icmp .ge 57, 3) := by decide +kernel
theorem dX8_copy_150 : decode cX8_copy 150 = .ok (.iload 6, 2) := by decide +kernel
theorem dX8_copy_152 : decode cX8_copy 152 = .ok (.ifCond .eq 8, 3) := by decide +kernel
theorem dX8_copy_155 : decode cX8_copy 155 = .ok (.iload 7, 2) := by decide +kernel
theorem dX8_copy_157 : decode cX8_copy 157 = .ok (.goto 10, 3) := by decide +kernel
theorem dX8_copy_160 : decode cX8_copy 160 = .ok (.iload 5, 2) := by decide +kernel
theorem dX8_copy_162 : decode cX8_copy 162 = .ok (.iconst 1, 1) := by decide +kernel
theorem dX8_copy_163 : decode cX8_copy 163 = .ok (.isub, 1) := by decide +kernel
theorem dX8_copy_164 : decode cX8_copy 164 = .ok (.iload 7, 2) := by decide +kernel
theorem dX8_copy_166 : decode cX8_copy 166 = .ok (.isub, 1) := by decide +kernel
theorem dX8_copy_167 : decode cX8_copy 167 = .ok (.istore 8, 2) := by decide +kernel
theorem dX8_copy_169 : decode cX8_copy 169 = .ok (.aload_n 0, 1) := by decide +kernel
theorem dX8_copy_170 : decode cX8_copy 170 = .ok (.getfield 16, 3) := by decide +kernel
theorem dX8_copy_173 : decode cX8_copy 173 = .ok (.bipush 40, 2) := by decide +kernel
theorem dX8_copy_175 : decode cX8_copy 175 = .ok (.iload_n 3, 1) := by decide +kernel
theorem dX8_copy_176 : decode cX8_copy 176 = .ok (.imul, 1) := by decide +kernel
theorem dX8_copy_177 : decode cX8_copy 177 = .ok (.iload 4, 2) := by decide +kernel
theorem dX8_copy_179 : decode cX8_copy 179 = .ok (.iadd, 1) := by decide +kernel
theorem dX8_copy_180 : decode cX8_copy 180 = .ok (.iload 8, 2) := by decide +kernel
theorem dX8_copy_182 : decode cX8_copy 182 = .ok (.iadd, 1) := by decide +kernel
theorem dX8_copy_183 : decode cX8_copy 183 = .ok (.aload_n 0, 1) := by decide +kernel
theorem dX8_copy_184 : decode cX8_copy 184 = .ok (.getfield 16, 3) := by decide +kernel
theorem dX8_copy_187 : decode cX8_copy 187 = .ok (.bipush 40, 2) := by decide +kernel
theorem dX8_copy_189 : decode cX8_copy 189 = .ok (.iload_n 1, 1) := by decide +kernel
theorem dX8_copy_190 : decode cX8_copy 190 = .ok (.imul, 1) := by decide +kernel
theorem dX8_copy_191 : decode cX8_copy 191 = .ok (.iload_n 2, 1) := by decide +kernel
theorem dX8_copy_192 : decode cX8_copy 192 = .ok (.iadd, 1) := by decide +kernel
theorem dX8_copy_193 : decode cX8_copy 193 = .ok (.iload 8, 2) := by decide +kernel
theorem dX8_copy_195 : decode cX8_copy 195 = .ok (.iadd, 1) := by decide +kernel
theorem dX8_copy_196 : decode cX8_copy 196 = .ok (.iaload, 1) := by decide +kernel
theorem dX8_copy_197 : decode cX8_copy 197 = .ok (.iastore, 1) := by decide +kernel
theorem dX8_copy_198 : decode cX8_copy 198 = .ok (.iinc 7 1, 3) := by decide +kernel
theorem dX8_copy_201 : decode cX8_copy 201 = .ok (.goto (-58), 3) := by decide +kernel
theorem dX8_copy_204 : decode cX8_copy 204 = .ok (.iload 5, 2) := by decide +kernel
theorem dX8_copy_206 : decode cX8_copy 206 = .ok (.ireturn, 1) := by decide +kernel
theorem yv_X8_copy : YV yX8_copy cX8_copy 9 (some .int) 5 := ⟨m1020, m1021, m9, m1022, ⟨by decide +kernel, by decide +kernel, by decide +kernel⟩, by decide⟩
noncomputable def f_X8_copy_167 (q : Nat) (K143 : Int32 → Int32 → Int32 → Int32 → Int32 → Int32 → Int32 → AH → Option (Int32 × AH)) (x1 : Int32) (x2 : Int32) (x3 : Int32) (x4 : Int32) (x5 : Int32) (x6 : Int32) (x7 : Int32) (y0 : Int32) (h : AH) : Option (Int32 × AH) := lt ((((40 * x1) + x2) + y0)) (fun v_3 => ck v_3 320 (lt ((((40 * x3) + x4) + y0)) (fun v_4 => ck v_4 320 (lt (hset h (q + 3) (v_4 : Int32).toNatClampNeg (h (q + 3) (v_3 : Int32).toNatClampNeg)) (fun h_5 => lt (x7 + 1) (fun v_6 => K143 x1 x2 x3 x4 x5 x6 v_6 h_5))))))
set_option maxRecDepth 20000 in
set_option maxHeartbeats 4000000 in
theorem t_X8_copy_167 {z : MC} {g : GC} {A : Nat → Prop} (F : Fx z cX8_copy 9 RX8 (some .int) 3 g A) {q : Nat} (hq : (gL g)[q]? = some (.inl 8)) (K143 : Int32 → Int32 → Int32 → Int32 → Int32 → Int32 → Int32 → AH → Option (Int32 × AH)) (hK143 : ∀ (x1 : Int32) (x2 : Int32) (x3 : Int32) (x4 : Int32) (x5 : Int32) (x6 : Int32) (x7 : Int32) (h : AH), Snd z 9 g A (QF z g A mkI) 143 [(0, .ref (gad g q)), (1, .int x1), (2, .int x2), (3, .int x3), (4, .int x4), (5, .int x5), (6, .int x6), (7, .int x7)] [] h (K143 x1 x2 x3 x4 x5 x6 x7 h)) : ∀ (x1 : Int32) (x2 : Int32) (x3 : Int32) (x4 : Int32) (x5 : Int32) (x6 : Int32) (x7 : Int32) (y0 : Int32) (h : AH), Snd z 9 g A (QF z g A mkI) 167 [(0, .ref (gad g q)), (1, .int x1), (2, .int x2), (3, .int x3), (4, .int x4), (5, .int x5), (6, .int x6), (7, .int x7)] [.int y0] h (f_X8_copy_167 q K143 x1 x2 x3 x4 x5 x6 x7 y0 h) := by
  intro x1 x2 x3 x4 x5 x6 x7 y0 h
  unfold f_X8_copy_167
  refine s_istore F (lv' := [(8, .int y0), (0, .ref (gad g q)), (1, .int x1), (2, .int x2), (3, .int x3), (4, .int x4), (5, .int x5), (6, .int x6), (7, .int x7)]) dX8_copy_167 (by decide) rfl ?_
  refine s_aload_n F dX8_copy_169 rfl 1 rfl ?_
  have hw_1 := wf_ref F.2.2.2.2.2.2.1 hq 4 3 (.inr (0, 320)) rfl
  refine s_getr F ciX8 4 3 (.inr (0, 320)) hq (by decide) rfl rfl m897 dX8_copy_170 ?_
  refine s_bipush F (v := 40) dX8_copy_173 (by decide) ?_
  refine s_iload_n F dX8_copy_175 rfl 4 rfl ?_
  refine s_imul F dX8_copy_176 ?_
  refine s_iload F dX8_copy_177 5 rfl ?_
  refine s_iadd F dX8_copy_179 ?_
  refine s_iload F dX8_copy_180 0 rfl ?_
  refine s_iadd F dX8_copy_182 ?_
  refine s_aload_n F dX8_copy_183 rfl 1 rfl ?_
  have hw_2 := wf_ref F.2.2.2.2.2.2.1 hq 4 3 (.inr (0, 320)) rfl
  refine s_getr F ciX8 4 3 (.inr (0, 320)) hq (by decide) rfl rfl m897 dX8_copy_184 ?_
  refine s_bipush F (v := 40) dX8_copy_187 (by decide) ?_
  refine s_iload_n F dX8_copy_189 rfl 2 rfl ?_
  refine s_imul F dX8_copy_190 ?_
  refine s_iload_n F dX8_copy_191 rfl 3 rfl ?_
  refine s_iadd F dX8_copy_192 ?_
  refine s_iload F dX8_copy_193 0 rfl ?_
  refine s_iadd F dX8_copy_195 ?_
  refine s_leti (fun v_3 => ?_)
  refine s_iald F hw_2 dX8_copy_196 ?_
  refine s_leti2 (fun v_4 => ?_)
  refine s_iast F hw_1 dX8_copy_197 ?_
  refine s_letH (fun h_5 => ?_)
  refine s_iincv F dX8_copy_198 8 rfl (by decide) (c := 1) (by decide) (fun v_6 => ?_)
  refine s_lv (lv' := [(7, .int v_6), (8, .int y0), (0, .ref (gad g q)), (1, .int x1), (2, .int x2), (3, .int x3), (4, .int x4), (5, .int x5), (6, .int x6)]) rfl ?_
  refine s_goto F 143 dX8_copy_201 (by decide) ?_
  exact s_sub [2, 3, 4, 5, 6, 7, 8, 0] rfl (hK143 x1 x2 x3 x4 x5 x6 v_6 h_5)
noncomputable def f_X8_copy_143 (q : Nat) : Nat → Int32 → Int32 → Int32 → Int32 → Int32 → Int32 → Int32 → AH → Option (Int32 × AH)
  | 0, _, _, _, _, _, _, _, _ => none
  | n + 1, x1, x2, x3, x4, x5, x6, x7, h => if x5 ≤ x7 then (some (x5, h)) else (if x6 = 0 then (f_X8_copy_167 q (f_X8_copy_143 q n) x1 x2 x3 x4 x5 x6 x7 ((x5 - 1) - x7) h) else (f_X8_copy_167 q (f_X8_copy_143 q n) x1 x2 x3 x4 x5 x6 x7 x7 h))
set_option maxRecDepth 20000 in
set_option maxHeartbeats 4000000 in
theorem t_X8_copy_143 {z : MC} {g : GC} {A : Nat → Prop} (F : Fx z cX8_copy 9 RX8 (some .int) 3 g A) {q : Nat} (hq : (gL g)[q]? = some (.inl 8)) : ∀ (n : Nat) (x1 : Int32) (x2 : Int32) (x3 : Int32) (x4 : Int32) (x5 : Int32) (x6 : Int32) (x7 : Int32) (h : AH), Snd z 9 g A (QF z g A mkI) 143 [(0, .ref (gad g q)), (1, .int x1), (2, .int x2), (3, .int x3), (4, .int x4), (5, .int x5), (6, .int x6), (7, .int x7)] [] h (f_X8_copy_143 q n x1 x2 x3 x4 x5 x6 x7 h) := by
  intro n
  induction n with
  | zero => intros; exact s_none
  | succ n ih =>
    intro x1 x2 x3 x4 x5 x6 x7 h
    unfold f_X8_copy_143
    refine s_iload F dX8_copy_143 7 rfl ?_
    refine s_iload F dX8_copy_145 5 rfl ?_
    refine s_icmp_ge F 204 dX8_copy_147 (by decide) (fun _ => ?_) (fun _ => ?_)
    · refine s_iload F dX8_copy_204 5 rfl ?_
      exact s_iret F dX8_copy_206
    · refine s_iload F dX8_copy_150 6 rfl ?_
      refine s_if_eq F 160 dX8_copy_152 (by decide) (fun _ => ?_) (fun _ => ?_)
      · refine s_iload F dX8_copy_160 5 rfl ?_
        refine s_iconst F (v := 1) dX8_copy_162 (by decide) ?_
        refine s_isub F dX8_copy_163 ?_
        refine s_iload F dX8_copy_164 7 rfl ?_
        refine s_isub F dX8_copy_166 ?_
        exact s_sub [0, 1, 2, 3, 4, 5, 6, 7] rfl (t_X8_copy_167 F hq (f_X8_copy_143 q n) ih x1 x2 x3 x4 x5 x6 x7 ((x5 - 1) - x7) h)
      · refine s_iload F dX8_copy_155 7 rfl ?_
        refine s_goto F 167 dX8_copy_157 (by decide) ?_
        exact s_sub [0, 1, 2, 3, 4, 5, 6, 7] rfl (t_X8_copy_167 F hq (f_X8_copy_143 q n) ih x1 x2 x3 x4 x5 x6 x7 x7 h)
noncomputable def f_X8_copy (q : Nat) (x1 : Int32) (x2 : Int32) (x3 : Int32) (x4 : Int32) (x5 : Int32) (h : AH) : Option (Int32 × AH) := lt (hset h q 0 0) (fun h_1 => bd (f_X8_isRow x1 h_1) (fun v_3 h_2 => if v_3 = 0 then (some ((-1000001), h_2)) else (bd (f_X8_isRow x3 h_2) (fun v_5 h_4 => if v_5 = 0 then (some ((-1000001), h_4)) else (lt (hset h_4 q 1 0) (fun h_6 => ck x1 8 (if (h_6 (q + 1) (x1 : Int32).toNatClampNeg) < 0 then (bd (f_X8_finding q 1 h_6) (fun v_9 h_8 => some (v_9, h_8))) else (ck x3 8 (if (0 : Int32) ≤ (h_6 (q + 1) (x3 : Int32).toNatClampNeg) then (ck x1 8 (ck x3 8 (if (h_6 (q + 1) (x1 : Int32).toNatClampNeg) = (h_6 (q + 1) (x3 : Int32).toNatClampNeg) then (if x2 < 0 then (bd (f_X8_finding q 2 h_6) (fun v_14 h_13 => some (v_14, h_13))) else (if x4 < 0 then (bd (f_X8_finding q 2 h_6) (fun v_16 h_15 => some (v_16, h_15))) else (if x5 < 0 then (bd (f_X8_finding q 2 h_6) (fun v_18 h_17 => some (v_18, h_17))) else (ck x1 8 (if (0 : Int32) < (lg_cmp (((x2 : Int32).toInt64) + ((x5 : Int32).toInt64)) ((h_6 (q + 2) (x1 : Int32).toNatClampNeg : Int32).toInt64)) then (bd (f_X8_finding q 2 h_6) (fun v_21 h_20 => some (v_21, h_20))) else (ck x3 8 (if (lg_cmp (((x4 : Int32).toInt64) + ((x5 : Int32).toInt64)) ((h_6 (q + 2) (x3 : Int32).toNatClampNeg : Int32).toInt64)) ≤ 0 then (if x2 < x4 then (f_X8_copy_143 q fu x1 x2 x3 x4 x5 0 0 h_6) else (f_X8_copy_143 q fu x1 x2 x3 x4 x5 1 0 h_6)) else (bd (f_X8_finding q 2 h_6) (fun v_24 h_23 => some (v_24, h_23)))))))))) else (bd (f_X8_finding q 5 h_6) (fun v_26 h_25 => some (v_26, h_25)))))) else (bd (f_X8_finding q 1 h_6) (fun v_28 h_27 => some (v_28, h_27))))))))))))
set_option maxRecDepth 20000 in
set_option maxHeartbeats 4000000 in
theorem ct_X8_copy (l : Launch) (g : GC) {q : Nat} (hq : (gL g)[q]? = some (.inl 8)) (x1 : Int32) (x2 : Int32) (x3 : Int32) (x4 : Int32) (x5 : Int32) : Ct l yX8_copy cX8_copy 9 (some .int) 3 [.ref (gad g q), .int x1, .int x2, .int x3, .int x4, .int x5] g mkI (fun h => f_X8_copy q x1 x2 x3 x4 x5 h) := by
  refine Ct.of (by decide +kernel) (Nat.le_of_ble_eq_true rfl) (fun z A h _ F => ?_)
  show Snd z 9 g A (QF z g A mkI) 0 [(0, .ref (gad g q)), (1, .int x1), (2, .int x2), (3, .int x3), (4, .int x4), (5, .int x5)] [] h (f_X8_copy q x1 x2 x3 x4 x5 h)
  unfold f_X8_copy
  refine s_aload_n F dX8_copy_0 rfl 0 rfl ?_
  refine s_iconst F (v := 0) dX8_copy_1 (by decide) ?_
  refine s_put F ciX8 (k := 0) hq (by decide) rfl rfl rfl rfl m893 dX8_copy_2 ?_
  refine s_letH (fun h_1 => ?_)
  refine s_iload_n F dX8_copy_5 rfl 1 rfl ?_
  refine s_callSi (f := fun hh => f_X8_isRow x1 hh) (As := [.int x1]) F ys_X8_isRow (ct_X8_isRow z.2.1 g x1) (by decide) m1001 rfl rfl (Nat.le_of_ble_eq_true rfl) dX8_copy_6 (fun v_3 h_2 e_v_3 => ?_)
  refine s_if_eq F 19 dX8_copy_9 (by decide) (fun _ => ?_) (fun _ => ?_)
  · refine s_ldc F (v := (-1000001)) dX8_copy_19 m1009 ?_
    exact s_iret F dX8_copy_21
  · refine s_iload_n F dX8_copy_12 rfl 3 rfl ?_
    refine s_callSi (f := fun hh => f_X8_isRow x3 hh) (As := [.int x3]) F ys_X8_isRow (ct_X8_isRow z.2.1 g x3) (by decide) m1001 rfl rfl (Nat.le_of_ble_eq_true rfl) dX8_copy_13 (fun v_5 h_4 e_v_5 => ?_)
    refine s_if_ne F 22 dX8_copy_16 (by decide) (fun _ => ?_) (fun _ => ?_)
    · refine s_aload_n F dX8_copy_22 rfl 0 rfl ?_
      refine s_iconst F (v := 0) dX8_copy_23 (by decide) ?_
      refine s_put F ciX8 (k := 1) hq (by decide) rfl rfl rfl rfl m894 dX8_copy_24 ?_
      refine s_letH (fun h_6 => ?_)
      refine s_aload_n F dX8_copy_27 rfl 0 rfl ?_
      have hw_7 := wf_ref F.2.2.2.2.2.2.1 hq 2 1 (.inr (0, 8)) rfl
      refine s_getr F ciX8 2 1 (.inr (0, 8)) hq (by decide) rfl rfl m895 dX8_copy_28 ?_
      refine s_iload_n F dX8_copy_31 rfl 1 rfl ?_
      refine s_iald F hw_7 dX8_copy_32 ?_
      refine s_if_lt F 45 dX8_copy_33 (by decide) (fun _ => ?_) (fun _ => ?_)
      · refine s_aload_n F dX8_copy_45 rfl 0 rfl ?_
        refine s_iconst F (v := 1) dX8_copy_46 (by decide) ?_
        refine s_callVi (f := fun hh => f_X8_finding q 1 hh) (As := [.int 1]) F yv_X8_finding (ct_X8_finding z.2.1 g hq 1) (by decide) m1010 hq rfl rfl rfl (Nat.le_of_ble_eq_true rfl) dX8_copy_47 (fun v_9 h_8 e_v_9 => ?_)
        exact s_iret F dX8_copy_50
      · refine s_aload_n F dX8_copy_36 rfl 0 rfl ?_
        have hw_10 := wf_ref F.2.2.2.2.2.2.1 hq 2 1 (.inr (0, 8)) rfl
        refine s_getr F ciX8 2 1 (.inr (0, 8)) hq (by decide) rfl rfl m895 dX8_copy_37 ?_
        refine s_iload_n F dX8_copy_40 rfl 3 rfl ?_
        refine s_iald F hw_10 dX8_copy_41 ?_
        refine s_if_ge F 51 dX8_copy_42 (by decide) (fun _ => ?_) (fun _ => ?_)
        · refine s_aload_n F dX8_copy_51 rfl 0 rfl ?_
          have hw_11 := wf_ref F.2.2.2.2.2.2.1 hq 2 1 (.inr (0, 8)) rfl
          refine s_getr F ciX8 2 1 (.inr (0, 8)) hq (by decide) rfl rfl m895 dX8_copy_52 ?_
          refine s_iload_n F dX8_copy_55 rfl 1 rfl ?_
          refine s_iald F hw_11 dX8_copy_56 ?_
          refine s_aload_n F dX8_copy_57 rfl 0 rfl ?_
          have hw_12 := wf_ref F.2.2.2.2.2.2.1 hq 2 1 (.inr (0, 8)) rfl
          refine s_getr F ciX8 2 1 (.inr (0, 8)) hq (by decide) rfl rfl m895 dX8_copy_58 ?_
          refine s_iload_n F dX8_copy_61 rfl 3 rfl ?_
          refine s_iald F hw_12 dX8_copy_62 ?_
          refine s_icmp_eq F 72 dX8_copy_63 (by decide) (fun _ => ?_) (fun _ => ?_)
          · refine s_iload_n F dX8_copy_72 rfl 2 rfl ?_
            refine s_if_lt F 121 dX8_copy_73 (by decide) (fun _ => ?_) (fun _ => ?_)
            · refine s_aload_n F dX8_copy_121 rfl 0 rfl ?_
              refine s_iconst F (v := 2) dX8_copy_122 (by decide) ?_
              refine s_callVi (f := fun hh => f_X8_finding q 2 hh) (As := [.int 2]) F yv_X8_finding (ct_X8_finding z.2.1 g hq 2) (by decide) m1010 hq rfl rfl rfl (Nat.le_of_ble_eq_true rfl) dX8_copy_123 (fun v_14 h_13 e_v_14 => ?_)
              exact s_iret F dX8_copy_126
            · refine s_iload F dX8_copy_76 4 rfl ?_
              refine s_if_lt F 121 dX8_copy_78 (by decide) (fun _ => ?_) (fun _ => ?_)
              · refine s_aload_n F dX8_copy_121 rfl 0 rfl ?_
                refine s_iconst F (v := 2) dX8_copy_122 (by decide) ?_
                refine s_callVi (f := fun hh => f_X8_finding q 2 hh) (As := [.int 2]) F yv_X8_finding (ct_X8_finding z.2.1 g hq 2) (by decide) m1010 hq rfl rfl rfl (Nat.le_of_ble_eq_true rfl) dX8_copy_123 (fun v_16 h_15 e_v_16 => ?_)
                exact s_iret F dX8_copy_126
              · refine s_iload F dX8_copy_81 5 rfl ?_
                refine s_if_lt F 121 dX8_copy_83 (by decide) (fun _ => ?_) (fun _ => ?_)
                · refine s_aload_n F dX8_copy_121 rfl 0 rfl ?_
                  refine s_iconst F (v := 2) dX8_copy_122 (by decide) ?_
                  refine s_callVi (f := fun hh => f_X8_finding q 2 hh) (As := [.int 2]) F yv_X8_finding (ct_X8_finding z.2.1 g hq 2) (by decide) m1010 hq rfl rfl rfl (Nat.le_of_ble_eq_true rfl) dX8_copy_123 (fun v_18 h_17 e_v_18 => ?_)
                  exact s_iret F dX8_copy_126
                · refine s_iload_n F dX8_copy_86 rfl 2 rfl ?_
                  refine s_i2l F dX8_copy_87 ?_
                  refine s_iload F dX8_copy_88 5 rfl ?_
                  refine s_i2l F dX8_copy_90 ?_
                  refine s_ladd F dX8_copy_91 ?_
                  refine s_aload_n F dX8_copy_92 rfl 0 rfl ?_
                  have hw_19 := wf_ref F.2.2.2.2.2.2.1 hq 3 2 (.inr (0, 8)) rfl
                  refine s_getr F ciX8 3 2 (.inr (0, 8)) hq (by decide) rfl rfl m896 dX8_copy_93 ?_
                  refine s_iload_n F dX8_copy_96 rfl 1 rfl ?_
                  refine s_iald F hw_19 dX8_copy_97 ?_
                  refine s_i2l F dX8_copy_98 ?_
                  refine s_lcmp F dX8_copy_99 ?_
                  refine s_if_gt F 121 dX8_copy_100 (by decide) (fun _ => ?_) (fun _ => ?_)
                  · refine s_aload_n F dX8_copy_121 rfl 0 rfl ?_
                    refine s_iconst F (v := 2) dX8_copy_122 (by decide) ?_
                    refine s_callVi (f := fun hh => f_X8_finding q 2 hh) (As := [.int 2]) F yv_X8_finding (ct_X8_finding z.2.1 g hq 2) (by decide) m1010 hq rfl rfl rfl (Nat.le_of_ble_eq_true rfl) dX8_copy_123 (fun v_21 h_20 e_v_21 => ?_)
                    exact s_iret F dX8_copy_126
                  · refine s_iload F dX8_copy_103 4 rfl ?_
                    refine s_i2l F dX8_copy_105 ?_
                    refine s_iload F dX8_copy_106 5 rfl ?_
                    refine s_i2l F dX8_copy_108 ?_
                    refine s_ladd F dX8_copy_109 ?_
                    refine s_aload_n F dX8_copy_110 rfl 0 rfl ?_
                    have hw_22 := wf_ref F.2.2.2.2.2.2.1 hq 3 2 (.inr (0, 8)) rfl
                    refine s_getr F ciX8 3 2 (.inr (0, 8)) hq (by decide) rfl rfl m896 dX8_copy_111 ?_
                    refine s_iload_n F dX8_copy_114 rfl 3 rfl ?_
                    refine s_iald F hw_22 dX8_copy_115 ?_
                    refine s_i2l F dX8_copy_116 ?_
                    refine s_lcmp F dX8_copy_117 ?_
                    refine s_if_le F 127 dX8_copy_118 (by decide) (fun _ => ?_) (fun _ => ?_)
                    · refine s_iload_n F dX8_copy_127 rfl 2 rfl ?_
                      refine s_iload F dX8_copy_128 4 rfl ?_
                      refine s_icmp_lt F 137 dX8_copy_130 (by decide) (fun _ => ?_) (fun _ => ?_)
                      · refine s_iconst F (v := 0) dX8_copy_137 (by decide) ?_
                        refine s_istore F (lv' := [(6, .int 0), (0, .ref (gad g q)), (1, .int x1), (2, .int x2), (3, .int x3), (4, .int x4), (5, .int x5)]) dX8_copy_138 (by decide) rfl ?_
                        refine s_iconst F (v := 0) dX8_copy_140 (by decide) ?_
                        refine s_istore F (lv' := [(7, .int 0), (6, .int 0), (0, .ref (gad g q)), (1, .int x1), (2, .int x2), (3, .int x3), (4, .int x4), (5, .int x5)]) dX8_copy_141 (by decide) rfl ?_
                        exact s_sub [2, 3, 4, 5, 6, 7, 1, 0] rfl (t_X8_copy_143 F hq fu x1 x2 x3 x4 x5 0 0 h_6)
                      · refine s_iconst F (v := 1) dX8_copy_133 (by decide) ?_
                        refine s_goto F 138 dX8_copy_134 (by decide) ?_
                        refine s_istore F (lv' := [(6, .int 1), (0, .ref (gad g q)), (1, .int x1), (2, .int x2), (3, .int x3), (4, .int x4), (5, .int x5)]) dX8_copy_138 (by decide) rfl ?_
                        refine s_iconst F (v := 0) dX8_copy_140 (by decide) ?_
                        refine s_istore F (lv' := [(7, .int 0), (6, .int 1), (0, .ref (gad g q)), (1, .int x1), (2, .int x2), (3, .int x3), (4, .int x4), (5, .int x5)]) dX8_copy_141 (by decide) rfl ?_
                        exact s_sub [2, 3, 4, 5, 6, 7, 1, 0] rfl (t_X8_copy_143 F hq fu x1 x2 x3 x4 x5 1 0 h_6)
                    · refine s_aload_n F dX8_copy_121 rfl 0 rfl ?_
                      refine s_iconst F (v := 2) dX8_copy_122 (by decide) ?_
                      refine s_callVi (f := fun hh => f_X8_finding q 2 hh) (As := [.int 2]) F yv_X8_finding (ct_X8_finding z.2.1 g hq 2) (by decide) m1010 hq rfl rfl rfl (Nat.le_of_ble_eq_true rfl) dX8_copy_123 (fun v_24 h_23 e_v_24 => ?_)
                      exact s_iret F dX8_copy_126
          · refine s_aload_n F dX8_copy_66 rfl 0 rfl ?_
            refine s_iconst F (v := 5) dX8_copy_67 (by decide) ?_
            refine s_callVi (f := fun hh => f_X8_finding q 5 hh) (As := [.int 5]) F yv_X8_finding (ct_X8_finding z.2.1 g hq 5) (by decide) m1010 hq rfl rfl rfl (Nat.le_of_ble_eq_true rfl) dX8_copy_68 (fun v_26 h_25 e_v_26 => ?_)
            exact s_iret F dX8_copy_71
        · refine s_aload_n F dX8_copy_45 rfl 0 rfl ?_
          refine s_iconst F (v := 1) dX8_copy_46 (by decide) ?_
          refine s_callVi (f := fun hh => f_X8_finding q 1 hh) (As := [.int 1]) F yv_X8_finding (ct_X8_finding z.2.1 g hq 1) (by decide) m1010 hq rfl rfl rfl (Nat.le_of_ble_eq_true rfl) dX8_copy_47 (fun v_28 h_27 e_v_28 => ?_)
          exact s_iret F dX8_copy_50
    · refine s_ldc F (v := (-1000001)) dX8_copy_19 m1009 ?_
      exact s_iret F dX8_copy_21
theorem dX8_drop_0 : decode cX8_drop 0 = .ok (.aload_n 0, 1) := by decide +kernel
theorem dX8_drop_1 : decode cX8_drop 1 = .ok (.iconst 0, 1) := by decide +kernel
theorem dX8_drop_2 : decode cX8_drop 2 = .ok (.putfield 65, 3) := by decide +kernel
theorem dX8_drop_5 : decode cX8_drop 5 = .ok (.iload_n 1, 1) := by decide +kernel
theorem dX8_drop_6 : decode cX8_drop 6 = .ok (.invokestatic 79, 3) := by decide +kernel
theorem dX8_drop_9 : decode cX8_drop 9 = .ok (.ifCond .ne 6, 3) := by decide +kernel
theorem dX8_drop_12 : decode cX8_drop 12 = .ok (.ldc 85, 2) := by decide +kernel
theorem dX8_drop_14 : decode cX8_drop 14 = .ok (.ireturn, 1) := by decide +kernel
theorem dX8_drop_15 : decode cX8_drop 15 = .ok (.aload_n 0, 1) := by decide +kernel
theorem dX8_drop_16 : decode cX8_drop 16 = .ok (.iconst 0, 1) := by decide +kernel
theorem dX8_drop_17 : decode cX8_drop 17 = .ok (.putfield 69, 3) := by decide +kernel
theorem dX8_drop_20 : decode cX8_drop 20 = .ok (.aload_n 0, 1) := by decide +kernel
theorem dX8_drop_21 : decode cX8_drop 21 = .ok (.getfield 7, 3) := by decide +kernel
theorem dX8_drop_24 : decode cX8_drop 24 = .ok (.iload_n 1, 1) := by decide +kernel
theorem dX8_drop_25 : decode cX8_drop 25 = .ok (.iaload, 1) := by decide +kernel
theorem dX8_drop_26 : decode cX8_drop 26 = .ok (.ifCond .ge 9, 3) := by decide +kernel
theorem dX8_drop_29 : decode cX8_drop 29 = .ok (.aload_n 0, 1) := by decide +kernel
theorem dX8_drop_30 : decode cX8_drop 30 = .ok (.iconst 1, 1) := by decide +kernel
theorem dX8_drop_31 : decode cX8_drop 31 = .ok (.invokevirtual 86, 3) := by decide +kernel
theorem dX8_drop_34 : decode cX8_drop 34 = .ok (.ireturn, 1) := by decide +kernel
theorem dX8_drop_35 : decode cX8_drop 35 = .ok (.aload_n 0, 1) := by decide +kernel
theorem dX8_drop_36 : decode cX8_drop 36 = .ok (.getfield 7, 3) := by decide +kernel
theorem dX8_drop_39 : decode cX8_drop 39 = .ok (.iload_n 1, 1) := by decide +kernel
theorem dX8_drop_40 : decode cX8_drop 40 = .ok (.iconst (-1), 1) := by decide +kernel
theorem dX8_drop_41 : decode cX8_drop 41 = .ok (.iastore, 1) := by decide +kernel
theorem dX8_drop_42 : decode cX8_drop 42 = .ok (.aload_n 0, 1) := by decide +kernel
theorem dX8_drop_43 : decode cX8_drop 43 = .ok (.getfield 13, 3) := by decide +kernel
theorem dX8_drop_46 : decode cX8_drop 46 = .ok (.iload_n 1, 1) := by decide +kernel
theorem dX8_drop_47 : decode cX8_drop 47 = .ok (.iaload, 1) := by decide +kernel
theorem dX8_drop_48 : decode cX8_drop 48 = .ok (.ireturn, 1) := by decide +kernel
theorem yv_X8_drop : YV yX8_drop cX8_drop 2 (some .int) 1 := ⟨m1024, m1025, m9, m1026, ⟨by decide +kernel, by decide +kernel, by decide +kernel⟩, by decide⟩
noncomputable def f_X8_drop (q : Nat) (x1 : Int32) (h : AH) : Option (Int32 × AH) := lt (hset h q 0 0) (fun h_1 => bd (f_X8_isRow x1 h_1) (fun v_3 h_2 => if v_3 = 0 then (some ((-1000001), h_2)) else (lt (hset h_2 q 1 0) (fun h_4 => ck x1 8 (if (0 : Int32) ≤ (h_4 (q + 1) (x1 : Int32).toNatClampNeg) then (ck x1 8 (lt (hset h_4 (q + 1) (x1 : Int32).toNatClampNeg (-1)) (fun h_7 => ck x1 8 (some (h_7 (q + 2) (x1 : Int32).toNatClampNeg, h_7))))) else (bd (f_X8_finding q 1 h_4) (fun v_10 h_9 => some (v_10, h_9))))))))
set_option maxRecDepth 20000 in
set_option maxHeartbeats 4000000 in
theorem ct_X8_drop (l : Launch) (g : GC) {q : Nat} (hq : (gL g)[q]? = some (.inl 8)) (x1 : Int32) : Ct l yX8_drop cX8_drop 2 (some .int) 3 [.ref (gad g q), .int x1] g mkI (fun h => f_X8_drop q x1 h) := by
  refine Ct.of (by decide +kernel) (Nat.le_of_ble_eq_true rfl) (fun z A h _ F => ?_)
  show Snd z 2 g A (QF z g A mkI) 0 [(0, .ref (gad g q)), (1, .int x1)] [] h (f_X8_drop q x1 h)
  unfold f_X8_drop
  refine s_aload_n F dX8_drop_0 rfl 0 rfl ?_
  refine s_iconst F (v := 0) dX8_drop_1 (by decide) ?_
  refine s_put F ciX8 (k := 0) hq (by decide) rfl rfl rfl rfl m893 dX8_drop_2 ?_
  refine s_letH (fun h_1 => ?_)
  refine s_iload_n F dX8_drop_5 rfl 1 rfl ?_
  refine s_callSi (f := fun hh => f_X8_isRow x1 hh) (As := [.int x1]) F ys_X8_isRow (ct_X8_isRow z.2.1 g x1) (by decide) m1001 rfl rfl (Nat.le_of_ble_eq_true rfl) dX8_drop_6 (fun v_3 h_2 e_v_3 => ?_)
  refine s_if_ne F 15 dX8_drop_9 (by decide) (fun _ => ?_) (fun _ => ?_)
  · refine s_aload_n F dX8_drop_15 rfl 0 rfl ?_
    refine s_iconst F (v := 0) dX8_drop_16 (by decide) ?_
    refine s_put F ciX8 (k := 1) hq (by decide) rfl rfl rfl rfl m894 dX8_drop_17 ?_
    refine s_letH (fun h_4 => ?_)
    refine s_aload_n F dX8_drop_20 rfl 0 rfl ?_
    have hw_5 := wf_ref F.2.2.2.2.2.2.1 hq 2 1 (.inr (0, 8)) rfl
    refine s_getr F ciX8 2 1 (.inr (0, 8)) hq (by decide) rfl rfl m895 dX8_drop_21 ?_
    refine s_iload_n F dX8_drop_24 rfl 1 rfl ?_
    refine s_iald F hw_5 dX8_drop_25 ?_
    refine s_if_ge F 35 dX8_drop_26 (by decide) (fun _ => ?_) (fun _ => ?_)
    · refine s_aload_n F dX8_drop_35 rfl 0 rfl ?_
      have hw_6 := wf_ref F.2.2.2.2.2.2.1 hq 2 1 (.inr (0, 8)) rfl
      refine s_getr F ciX8 2 1 (.inr (0, 8)) hq (by decide) rfl rfl m895 dX8_drop_36 ?_
      refine s_iload_n F dX8_drop_39 rfl 1 rfl ?_
      refine s_iconst F (v := (-1)) dX8_drop_40 (by decide) ?_
      refine s_iast F hw_6 dX8_drop_41 ?_
      refine s_letH (fun h_7 => ?_)
      refine s_aload_n F dX8_drop_42 rfl 0 rfl ?_
      have hw_8 := wf_ref F.2.2.2.2.2.2.1 hq 3 2 (.inr (0, 8)) rfl
      refine s_getr F ciX8 3 2 (.inr (0, 8)) hq (by decide) rfl rfl m896 dX8_drop_43 ?_
      refine s_iload_n F dX8_drop_46 rfl 1 rfl ?_
      refine s_iald F hw_8 dX8_drop_47 ?_
      exact s_iret F dX8_drop_48
    · refine s_aload_n F dX8_drop_29 rfl 0 rfl ?_
      refine s_iconst F (v := 1) dX8_drop_30 (by decide) ?_
      refine s_callVi (f := fun hh => f_X8_finding q 1 hh) (As := [.int 1]) F yv_X8_finding (ct_X8_finding z.2.1 g hq 1) (by decide) m1010 hq rfl rfl rfl (Nat.le_of_ble_eq_true rfl) dX8_drop_31 (fun v_10 h_9 e_v_10 => ?_)
      exact s_iret F dX8_drop_34
  · refine s_ldc F (v := (-1000001)) dX8_drop_12 m1009 ?_
    exact s_iret F dX8_drop_14
theorem dX8_feed_0 : decode cX8_feed 0 = .ok (.aload_n 0, 1) := by decide +kernel
theorem dX8_feed_1 : decode cX8_feed 1 = .ok (.iconst 0, 1) := by decide +kernel
theorem dX8_feed_2 : decode cX8_feed 2 = .ok (.putfield 65, 3) := by decide +kernel
theorem dX8_feed_5 : decode cX8_feed 5 = .ok (.iload_n 3, 1) := by decide +kernel
theorem dX8_feed_6 : decode cX8_feed 6 = .ok (.i2l, 1) := by decide +kernel
theorem dX8_feed_7 : decode cX8_feed 7 = .ok (.lconst 1, 1) := by decide +kernel
theorem dX8_feed_8 : decode cX8_feed 8 = .ok (.ldc2_w 90, 3) := by decide +kernel
theorem dX8_feed_11 : decode cX8_feed 11 = .ok (.invokestatic 75, 3) := by decide +kernel
theorem dX8_feed_14 : decode cX8_feed 14 = .ok (.ifCond .ne 6, 3) := by decide +kernel
theorem dX8_feed_17 : decode cX8_feed 17 = .ok (.ldc 85, 2) := by decide +kernel
theorem dX8_feed_19 : decode cX8_feed 19 = .ok (.ireturn, 1) := by decide +kernel
theorem dX8_feed_20 : decode cX8_feed 20 = .ok (.aload_n 0, 1) := by decide +kernel
theorem dX8_feed_21 : decode cX8_feed 21 = .ok (.getfield 92, 3) := by decide +kernel
theorem dX8_feed_24 : decode cX8_feed 24 = .ok (.iload_n 3, 1) := by decide +kernel
theorem dX8_feed_25 : decode cX8_feed 25 = .ok (.iadd, 1) := by decide +kernel
theorem dX8_feed_26 : decode cX8_feed 26 = .ok (.sipush 500, 3) := by decide +kernel
theorem dX8_feed_29 : decode cX8_feed 29 = .ok (.if_icmp .le 6, 3) := by decide +kernel
theorem dX8_feed_32 : decode cX8_feed 32 = .ok (.ldc 95, 2) := by decide +kernel
theorem dX8_feed_34 : decode cX8_feed 34 = .ok (.ireturn, 1) := by decide +kernel
theorem dX8_feed_35 : decode cX8_feed 35 = .ok (.iload_n 3, 1) := by decide +kernel
theorem dX8_feed_36 : decode cX8_feed 36 = .ok (.iconst 1, 1) := by decide +kernel
theorem dX8_feed_37 : decode cX8_feed 37 = .ok (.isub, 1) := by decide +kernel
theorem dX8_feed_38 : decode cX8_feed 38 = .ok (.istore 4, 2) := by decide +kernel
theorem dX8_feed_40 : decode cX8_feed 40 = .ok (.iload 4, 2) := by decide +kernel
theorem dX8_feed_42 : decode cX8_feed 42 = .ok (.ifCond .lt 40, 3) := by decide +kernel
theorem dX8_feed_45 : decode cX8_feed 45 = .ok (.aload_n 0, 1) := by decide +kernel
theorem dX8_feed_46 : decode cX8_feed 46 = .ok (.getfield 28, 3) := by decide +kernel
theorem dX8_feed_49 : decode cX8_feed 49 = .ok (.aload_n 0, 1) := by decide +kernel
theorem dX8_feed_50 : decode cX8_feed 50 = .ok (.getfield 92, 3) := by decide +kernel
theorem dX8_feed_53 : decode cX8_feed 53 = .ok (.lload_n 1, 1) := by decide +kernel
theorem dX8_feed_54 : decode cX8_feed 54 = .ok (.bipush 8, 2) := by decide +kernel
theorem dX8_feed_56 : decode cX8_feed 56 = .ok (.iload 4, 2) := by decide +kernel
theorem dX8_feed_58 : decode cX8_feed 58 = .ok (.imul, 1) := by decide +kernel
theorem dX8_feed_59 : decode cX8_feed 59 = .ok (.lshr, 1) := by decide +kernel
theorem dX8_feed_60 : decode cX8_feed 60 = .ok (.ldc2_w 96, 3) := by decide +kernel
theorem dX8_feed_63 : decode cX8_feed 63 = .ok (.land, 1) := by decide +kernel
theorem dX8_feed_64 : decode cX8_feed 64 = .ok (.l2i, 1) := by decide +kernel
theorem dX8_feed_65 : decode cX8_feed 65 = .ok (.iastore, 1) := by decide +kernel
theorem dX8_feed_66 : decode cX8_feed 66 = .ok (.aload_n 0, 1) := by decide +kernel
theorem dX8_feed_67 : decode cX8_feed 67 = .ok (.dup, 1) := by decide +kernel
theorem dX8_feed_68 : decode cX8_feed 68 = .ok (.getfield 92, 3) := by decide +kernel
theorem dX8_feed_71 : decode cX8_feed 71 = .ok (.iconst 1, 1) := by decide +kernel
theorem dX8_feed_72 : decode cX8_feed 72 = .ok (.iadd, 1) := by decide +kernel
theorem dX8_feed_73 : decode cX8_feed 73 = .ok (.putfield 92, 3) := by decide +kernel
theorem dX8_feed_76 : decode cX8_feed 76 = .ok (.iinc 4 (-1), 3) := by decide +kernel
theorem dX8_feed_79 : decode cX8_feed 79 = .ok (.goto (-39), 3) := by decide +kernel
theorem dX8_feed_82 : decode cX8_feed 82 = .ok (.aload_n 0, 1) := by decide +kernel
theorem dX8_feed_83 : decode cX8_feed 83 = .ok (.getfield 92, 3) := by decide +kernel
theorem dX8_feed_86 : decode cX8_feed 86 = .ok (.ireturn, 1) := by decide +kernel
theorem yv_X8_feed : YV yX8_feed cX8_feed 5 (some .int) 2 := ⟨m1028, m1029, m9, m1030, ⟨by decide +kernel, by decide +kernel, by decide +kernel⟩, by decide⟩
noncomputable def f_X8_feed_40 (q : Nat) : Nat → Int64 → Int32 → AH → Option (Int32 × AH)
  | 0, _, _, _ => none
  | n + 1, x1, x4, h => if x4 < 0 then (some (h q 11, h)) else (lt (h q 11) (fun v_2 => ck v_2 500 (lt (hset h (q + 7) (v_2 : Int32).toNatClampNeg ((((x1 >>> (((8 * x4) : Int32).toInt64 &&& 63)) &&& 255) : Int64).toInt32)) (fun h_3 => lt (hset h_3 q 11 ((h_3 q 11) + 1)) (fun h_4 => lt (x4 + (-1)) (fun v_5 => (f_X8_feed_40 q n) x1 v_5 h_4))))))
set_option maxRecDepth 20000 in
set_option maxHeartbeats 4000000 in
theorem t_X8_feed_40 {z : MC} {g : GC} {A : Nat → Prop} (F : Fx z cX8_feed 5 RX8 (some .int) 2 g A) {q : Nat} (hq : (gL g)[q]? = some (.inl 8)) : ∀ (n : Nat) (x1 : Int64) (x4 : Int32) (h : AH), Snd z 5 g A (QF z g A mkI) 40 [(0, .ref (gad g q)), (1, .long x1), (4, .int x4)] [] h (f_X8_feed_40 q n x1 x4 h) := by
  intro n
  induction n with
  | zero => intros; exact s_none
  | succ n ih =>
    intro x1 x4 h
    unfold f_X8_feed_40
    refine s_iload F dX8_feed_40 2 rfl ?_
    refine s_if_lt F 82 dX8_feed_42 (by decide) (fun _ => ?_) (fun _ => ?_)
    · refine s_aload_n F dX8_feed_82 rfl 0 rfl ?_
      refine s_geti F ciX8 11 hq (by decide) rfl rfl m904 dX8_feed_83 ?_
      exact s_iret F dX8_feed_86
    · refine s_aload_n F dX8_feed_45 rfl 0 rfl ?_
      have hw_1 := wf_ref F.2.2.2.2.2.2.1 hq 10 7 (.inr (0, 500)) rfl
      refine s_getr F ciX8 10 7 (.inr (0, 500)) hq (by decide) rfl rfl m903 dX8_feed_46 ?_
      refine s_aload_n F dX8_feed_49 rfl 0 rfl ?_
      refine s_geti F ciX8 11 hq (by decide) rfl rfl m904 dX8_feed_50 ?_
      refine s_lload_n F dX8_feed_53 rfl 1 rfl ?_
      refine s_bipush F (v := 8) dX8_feed_54 (by decide) ?_
      refine s_iload F dX8_feed_56 2 rfl ?_
      refine s_imul F dX8_feed_58 ?_
      refine s_lshr F dX8_feed_59 ?_
      refine s_ldc2 F (v := 255) dX8_feed_60 m1033 ?_
      refine s_land F dX8_feed_63 ?_
      refine s_l2i F dX8_feed_64 ?_
      refine s_leti2 (fun v_2 => ?_)
      refine s_iast F hw_1 dX8_feed_65 ?_
      refine s_letH (fun h_3 => ?_)
      refine s_aload_n F dX8_feed_66 rfl 0 rfl ?_
      refine s_dup F dX8_feed_67 rfl ?_
      refine s_geti F ciX8 11 hq (by decide) rfl rfl m904 dX8_feed_68 ?_
      refine s_iconst F (v := 1) dX8_feed_71 (by decide) ?_
      refine s_iadd F dX8_feed_72 ?_
      refine s_put F ciX8 (k := 11) hq (by decide) rfl rfl rfl rfl m904 dX8_feed_73 ?_
      refine s_letH (fun h_4 => ?_)
      refine s_iincv F dX8_feed_76 2 rfl (by decide) (c := (-1)) (by decide) (fun v_5 => ?_)
      refine s_lv (lv' := [(4, .int v_5), (0, .ref (gad g q)), (1, .long x1)]) rfl ?_
      refine s_goto F 40 dX8_feed_79 (by decide) ?_
      exact s_sub [1, 2, 0] rfl (ih x1 v_5 h_4)
noncomputable def f_X8_feed (q : Nat) (x1 : Int64) (x3 : Int32) (h : AH) : Option (Int32 × AH) := lt (hset h q 0 0) (fun h_1 => bd (f_X8_in ((x3 : Int32).toInt64) 1 8 h_1) (fun v_3 h_2 => if v_3 = 0 then (some ((-1000001), h_2)) else (if ((h_2 q 11) + x3) ≤ 500 then (lt ((x3 - 1)) (fun v_4 => f_X8_feed_40 q fu x1 v_4 h_2)) else (some ((-1000003), h_2)))))
set_option maxRecDepth 20000 in
set_option maxHeartbeats 4000000 in
theorem ct_X8_feed (l : Launch) (g : GC) {q : Nat} (hq : (gL g)[q]? = some (.inl 8)) (x1 : Int64) (x3 : Int32) : Ct l yX8_feed cX8_feed 5 (some .int) 2 [.ref (gad g q), .long x1, .int x3] g mkI (fun h => f_X8_feed q x1 x3 h) := by
  refine Ct.of (by decide +kernel) (Nat.le_of_ble_eq_true rfl) (fun z A h _ F => ?_)
  show Snd z 5 g A (QF z g A mkI) 0 [(0, .ref (gad g q)), (1, .long x1), (3, .int x3)] [] h (f_X8_feed q x1 x3 h)
  unfold f_X8_feed
  refine s_aload_n F dX8_feed_0 rfl 0 rfl ?_
  refine s_iconst F (v := 0) dX8_feed_1 (by decide) ?_
  refine s_put F ciX8 (k := 0) hq (by decide) rfl rfl rfl rfl m893 dX8_feed_2 ?_
  refine s_letH (fun h_1 => ?_)
  refine s_iload_n F dX8_feed_5 rfl 2 rfl ?_
  refine s_i2l F dX8_feed_6 ?_
  refine s_lconst F (v := 1) dX8_feed_7 (by decide) ?_
  refine s_ldc2 F (v := 8) dX8_feed_8 m1031 ?_
  refine s_callSi (f := fun hh => f_X8_in ((x3 : Int32).toInt64) 1 8 hh) (As := [.long ((x3 : Int32).toInt64), .long 1, .long 8]) F ys_X8_in (ct_X8_in z.2.1 g ((x3 : Int32).toInt64) 1 8) (by decide) m1005 rfl rfl (Nat.le_of_ble_eq_true rfl) dX8_feed_11 (fun v_3 h_2 e_v_3 => ?_)
  refine s_if_ne F 20 dX8_feed_14 (by decide) (fun _ => ?_) (fun _ => ?_)
  · refine s_aload_n F dX8_feed_20 rfl 0 rfl ?_
    refine s_geti F ciX8 11 hq (by decide) rfl rfl m904 dX8_feed_21 ?_
    refine s_iload_n F dX8_feed_24 rfl 2 rfl ?_
    refine s_iadd F dX8_feed_25 ?_
    refine s_sipush F (v := 500) dX8_feed_26 (by decide) ?_
    refine s_icmp_le F 35 dX8_feed_29 (by decide) (fun _ => ?_) (fun _ => ?_)
    · refine s_iload_n F dX8_feed_35 rfl 2 rfl ?_
      refine s_iconst F (v := 1) dX8_feed_36 (by decide) ?_
      refine s_isub F dX8_feed_37 ?_
      refine s_leti (fun v_4 => ?_)
      refine s_istore F (lv' := [(4, .int v_4), (0, .ref (gad g q)), (1, .long x1), (3, .int x3)]) dX8_feed_38 (by decide) rfl ?_
      exact s_sub [1, 2, 0] rfl (t_X8_feed_40 F hq fu x1 v_4 h_2)
    · refine s_ldc F (v := (-1000003)) dX8_feed_32 m1032 ?_
      exact s_iret F dX8_feed_34
  · refine s_ldc F (v := (-1000001)) dX8_feed_17 m1009 ?_
    exact s_iret F dX8_feed_19
theorem dX8_bad_0 : decode cX8_bad 0 = .ok (.aload_n 0, 1) := by decide +kernel
theorem dX8_bad_1 : decode cX8_bad 1 = .ok (.getfield 123, 3) := by decide +kernel
theorem dX8_bad_4 : decode cX8_bad 4 = .ok (.ifCond .ne 16, 3) := by decide +kernel
theorem dX8_bad_7 : decode cX8_bad 7 = .ok (.aload_n 0, 1) := by decide +kernel
theorem dX8_bad_8 : decode cX8_bad 8 = .ok (.iload_n 1, 1) := by decide +kernel
theorem dX8_bad_9 : decode cX8_bad 9 = .ok (.putfield 123, 3) := by decide +kernel
theorem dX8_bad_12 : decode cX8_bad 12 = .ok (.aload_n 0, 1) := by decide +kernel
theorem dX8_bad_13 : decode cX8_bad 13 = .ok (.aload_n 0, 1) := by decide +kernel
theorem dX8_bad_14 : decode cX8_bad 14 = .ok (.getfield 108, 3) := by decide +kernel
theorem dX8_bad_17 : decode cX8_bad 17 = .ok (.putfield 129, 3) := by decide +kernel
theorem dX8_bad_20 : decode cX8_bad 20 = .ok (.return_, 1) := by decide +kernel
theorem yv_X8_bad : YV yX8_bad cX8_bad 2 none 1 := ⟨m1072, ms36, m9, m1073, ⟨by decide +kernel, by decide +kernel, by decide +kernel⟩, by decide⟩
noncomputable def f_X8_bad (q : Nat) (x1 : Int32) (h : AH) : Option (Unit × AH) := if (h q 18) = 0 then (lt (hset h q 18 x1) (fun h_1 => lt (hset h_1 q 19 (h_1 q 16)) (fun h_2 => some ((), h_2)))) else (some ((), h))
set_option maxRecDepth 20000 in
set_option maxHeartbeats 4000000 in
theorem ct_X8_bad (l : Launch) (g : GC) {q : Nat} (hq : (gL g)[q]? = some (.inl 8)) (x1 : Int32) : Ct l yX8_bad cX8_bad 2 none 1 [.ref (gad g q), .int x1] g mkU (fun h => f_X8_bad q x1 h) := by
  refine Ct.of (by decide +kernel) (Nat.le_of_ble_eq_true rfl) (fun z A h _ F => ?_)
  show Snd z 2 g A (QF z g A mkU) 0 [(0, .ref (gad g q)), (1, .int x1)] [] h (f_X8_bad q x1 h)
  unfold f_X8_bad
  refine s_aload_n F dX8_bad_0 rfl 0 rfl ?_
  refine s_geti F ciX8 18 hq (by decide) rfl rfl m911 dX8_bad_1 ?_
  refine s_if_ne F 20 dX8_bad_4 (by decide) (fun _ => ?_) (fun _ => ?_)
  · exact s_vret F dX8_bad_20
  · refine s_aload_n F dX8_bad_7 rfl 0 rfl ?_
    refine s_iload_n F dX8_bad_8 rfl 1 rfl ?_
    refine s_put F ciX8 (k := 18) hq (by decide) rfl rfl rfl rfl m911 dX8_bad_9 ?_
    refine s_letH (fun h_1 => ?_)
    refine s_aload_n F dX8_bad_12 rfl 0 rfl ?_
    refine s_aload_n F dX8_bad_13 rfl 0 rfl ?_
    refine s_geti F ciX8 16 hq (by decide) rfl rfl m909 dX8_bad_14 ?_
    refine s_put F ciX8 (k := 19) hq (by decide) rfl rfl rfl rfl m912 dX8_bad_17 ?_
    refine s_letH (fun h_2 => ?_)
    exact s_vret F dX8_bad_20
theorem dX8_byteAt_0 : decode cX8_byteAt 0 = .ok (.iload_n 1, 1) := by decide +kernel
theorem dX8_byteAt_1 : decode cX8_byteAt 1 = .ok (.aload_n 0, 1) := by decide +kernel
theorem dX8_byteAt_2 : decode cX8_byteAt 2 = .ok (.getfield 98, 3) := by decide +kernel
theorem dX8_byteAt_5 : decode cX8_byteAt 5 = .ok (.if_icmp .ge 12, 3) := by decide +kernel
theorem dX8_byteAt_8 : decode cX8_byteAt 8 = .ok (.aload_n 0, 1) := by decide +kernel
theorem dX8_byteAt_9 : decode cX8_byteAt 9 = .ok (.getfield 28, 3) := by decide +kernel
theorem dX8_byteAt_12 : decode cX8_byteAt 12 = .ok (.iload_n 1, 1) := by decide +kernel
theorem dX8_byteAt_13 : decode cX8_byteAt 13 = .ok (.iaload, 1) := by decide +kernel
theorem dX8_byteAt_14 : decode cX8_byteAt 14 = .ok (.goto 5, 3) := by decide +kernel
theorem dX8_byteAt_17 : decode cX8_byteAt 17 = .ok (.ldc 101, 2) := by decide +kernel
theorem dX8_byteAt_19 : decode cX8_byteAt 19 = .ok (.ireturn, 1) := by decide +kernel
theorem yv_X8_byteAt : YV yX8_byteAt cX8_byteAt 2 (some .int) 1 := ⟨m1048, ms32, m9, m1049, ⟨by decide +kernel, by decide +kernel, by decide +kernel⟩, by decide⟩
noncomputable def f_X8_byteAt (q : Nat) (x1 : Int32) (h : AH) : Option (Int32 × AH) := if (h q 13) ≤ x1 then (some ((-1000000), h)) else (ck x1 500 (some (h (q + 7) (x1 : Int32).toNatClampNeg, h)))
set_option maxRecDepth 20000 in
set_option maxHeartbeats 4000000 in
theorem ct_X8_byteAt (l : Launch) (g : GC) {q : Nat} (hq : (gL g)[q]? = some (.inl 8)) (x1 : Int32) : Ct l yX8_byteAt cX8_byteAt 2 (some .int) 1 [.ref (gad g q), .int x1] g mkI (fun h => f_X8_byteAt q x1 h) := by
  refine Ct.of (by decide +kernel) (Nat.le_of_ble_eq_true rfl) (fun z A h _ F => ?_)
  show Snd z 2 g A (QF z g A mkI) 0 [(0, .ref (gad g q)), (1, .int x1)] [] h (f_X8_byteAt q x1 h)
  unfold f_X8_byteAt
  refine s_iload_n F dX8_byteAt_0 rfl 1 rfl ?_
  refine s_aload_n F dX8_byteAt_1 rfl 0 rfl ?_
  refine s_geti F ciX8 13 hq (by decide) rfl rfl m906 dX8_byteAt_2 ?_
  refine s_icmp_ge F 17 dX8_byteAt_5 (by decide) (fun _ => ?_) (fun _ => ?_)
  · refine s_ldc F (v := (-1000000)) dX8_byteAt_17 m1050 ?_
    exact s_iret F dX8_byteAt_19
  · refine s_aload_n F dX8_byteAt_8 rfl 0 rfl ?_
    have hw_1 := wf_ref F.2.2.2.2.2.2.1 hq 10 7 (.inr (0, 500)) rfl
    refine s_getr F ciX8 10 7 (.inr (0, 500)) hq (by decide) rfl rfl m903 dX8_byteAt_9 ?_
    refine s_iload_n F dX8_byteAt_12 rfl 1 rfl ?_
    refine s_iald F hw_1 dX8_byteAt_13 ?_
    refine s_goto F 19 dX8_byteAt_14 (by decide) ?_
    exact s_iret F dX8_byteAt_19
theorem dX8_isFigure_0 : decode cX8_isFigure 0 = .ok (.iload_n 0, 1) := by decide +kernel
theorem dX8_isFigure_1 : decode cX8_isFigure 1 = .ok (.bipush 48, 2) := by decide +kernel
theorem dX8_isFigure_3 : decode cX8_isFigure 3 = .ok (.if_icmp .lt 13, 3) := by decide +kernel
theorem dX8_isFigure_6 : decode cX8_isFigure 6 = .ok (.iload_n 0, 1) := by decide +kernel
theorem dX8_isFigure_7 : decode cX8_isFigure 7 = .ok (.bipush 57, 2) := by decide +kernel
theorem dX8_isFigure_9 : decode cX8_isFigure 9 = .ok (.if_icmp .gt 7, 3) := by decide +kernel
theorem dX8_isFigure_12 : decode cX8_isFigure 12 = .ok (.iconst 1, 1) := by decide +kernel
theorem dX8_isFigure_13 : decode cX8_isFigure 13 = .ok (.goto 4, 3) := by decide +kernel
theorem dX8_isFigure_16 : decode cX8_isFigure 16 = .ok (.iconst 0, 1) := by decide +kernel
theorem dX8_isFigure_17 : decode cX8_isFigure 17 = .ok (.ireturn, 1) := by decide +kernel
theorem ys_X8_isFigure : YS yX8_isFigure cX8_isFigure 1 (some .boolean) 1 := ⟨m1055, m9, m1056, ⟨by decide +kernel, by decide +kernel, by decide +kernel⟩, by decide⟩
noncomputable def f_X8_isFigure (x0 : Int32) (h : AH) : Option (Int32 × AH) := if x0 < 48 then (some (0, h)) else (if (57 : Int32) < x0 then (some (0, h)) else (some (1, h)))
set_option maxRecDepth 20000 in
set_option maxHeartbeats 4000000 in
theorem ct_X8_isFigure (l : Launch) (g : GC) (x0 : Int32) : Ct l yX8_isFigure cX8_isFigure 1 (some .boolean) 1 [.int x0] g mkI (fun h => f_X8_isFigure x0 h) := by
  refine Ct.of (by decide +kernel) (Nat.le_of_ble_eq_true rfl) (fun z A h _ F => ?_)
  show Snd z 1 g A (QF z g A mkI) 0 [(0, .int x0)] [] h (f_X8_isFigure x0 h)
  unfold f_X8_isFigure
  refine s_iload_n F dX8_isFigure_0 rfl 0 rfl ?_
  refine s_bipush F (v := 48) dX8_isFigure_1 (by decide) ?_
  refine s_icmp_lt F 16 dX8_isFigure_3 (by decide) (fun _ => ?_) (fun _ => ?_)
  · refine s_iconst F (v := 0) dX8_isFigure_16 (by decide) ?_
    exact s_zret1 F (by decide) dX8_isFigure_17
  · refine s_iload_n F dX8_isFigure_6 rfl 0 rfl ?_
    refine s_bipush F (v := 57) dX8_isFigure_7 (by decide) ?_
    refine s_icmp_gt F 16 dX8_isFigure_9 (by decide) (fun _ => ?_) (fun _ => ?_)
    · refine s_iconst F (v := 0) dX8_isFigure_16 (by decide) ?_
      exact s_zret1 F (by decide) dX8_isFigure_17
    · refine s_iconst F (v := 1) dX8_isFigure_12 (by decide) ?_
      refine s_goto F 17 dX8_isFigure_13 (by decide) ?_
      exact s_zret1 F (by decide) dX8_isFigure_17
theorem dX8_isLetter_0 : decode cX8_isLetter 0 = .ok (.iload_n 0, 1) := by decide +kernel
theorem dX8_isLetter_1 : decode cX8_isLetter 1 = .ok (.bipush 97, 2) := by decide +kernel
theorem dX8_isLetter_3 : decode cX8_isLetter 3 = .ok (.if_icmp .lt 13, 3) := by decide +kernel
theorem dX8_isLetter_6 : decode cX8_isLetter 6 = .ok (.iload_n 0, 1) := by decide +kernel
theorem dX8_isLetter_7 : decode cX8_isLetter 7 = .ok (.bipush 122, 2) := by decide +kernel
theorem dX8_isLetter_9 : decode cX8_isLetter 9 = .ok (.if_icmp .gt 7, 3) := by decide +kernel
theorem dX8_isLetter_12 : decode cX8_isLetter 12 = .ok (.iconst 1, 1) := by decide +kernel
theorem dX8_isLetter_13 : decode cX8_isLetter 13 = .ok (.goto 4, 3) := by decide +kernel
theorem dX8_isLetter_16 : decode cX8_isLetter 16 = .ok (.iconst 0, 1) := by decide +kernel
theorem dX8_isLetter_17 : decode cX8_isLetter 17 = .ok (.ireturn, 1) := by decide +kernel
theorem ys_X8_isLetter : YS yX8_isLetter cX8_isLetter 1 (some .boolean) 1 := ⟨m1052, m9, m1053, ⟨by decide +kernel, by decide +kernel, by decide +kernel⟩, by decide⟩
noncomputable def f_X8_isLetter (x0 : Int32) (h : AH) : Option (Int32 × AH) := if x0 < 97 then (some (0, h)) else (if (122 : Int32) < x0 then (some (0, h)) else (some (1, h)))
set_option maxRecDepth 20000 in
set_option maxHeartbeats 4000000 in
theorem ct_X8_isLetter (l : Launch) (g : GC) (x0 : Int32) : Ct l yX8_isLetter cX8_isLetter 1 (some .boolean) 1 [.int x0] g mkI (fun h => f_X8_isLetter x0 h) := by
  refine Ct.of (by decide +kernel) (Nat.le_of_ble_eq_true rfl) (fun z A h _ F => ?_)
  show Snd z 1 g A (QF z g A mkI) 0 [(0, .int x0)] [] h (f_X8_isLetter x0 h)
  unfold f_X8_isLetter
  refine s_iload_n F dX8_isLetter_0 rfl 0 rfl ?_
  refine s_bipush F (v := 97) dX8_isLetter_1 (by decide) ?_
  refine s_icmp_lt F 16 dX8_isLetter_3 (by decide) (fun _ => ?_) (fun _ => ?_)
  · refine s_iconst F (v := 0) dX8_isLetter_16 (by decide) ?_
    exact s_zret1 F (by decide) dX8_isLetter_17
  · refine s_iload_n F dX8_isLetter_6 rfl 0 rfl ?_
    refine s_bipush F (v := 122) dX8_isLetter_7 (by decide) ?_
    refine s_icmp_gt F 16 dX8_isLetter_9 (by decide) (fun _ => ?_) (fun _ => ?_)
    · refine s_iconst F (v := 0) dX8_isLetter_16 (by decide) ?_
      exact s_zret1 F (by decide) dX8_isLetter_17
    · refine s_iconst F (v := 1) dX8_isLetter_12 (by decide) ?_
      refine s_goto F 17 dX8_isLetter_13 (by decide) ?_
      exact s_zret1 F (by decide) dX8_isLetter_17
theorem dX8_next_0 : decode cX8_next 0 = .ok (.aload_n 0, 1) := by decide +kernel
theorem dX8_next_1 : decode cX8_next 1 = .ok (.aload_n 0, 1) := by decide +kernel
theorem dX8_next_2 : decode cX8_next 2 = .ok (.getfield 102, 3) := by decide +kernel
theorem dX8_next_5 : decode cX8_next 5 = .ok (.invokevirtual 105, 3) := by decide +kernel
theorem dX8_next_8 : decode cX8_next 8 = .ok (.bipush 32, 2) := by decide +kernel
theorem dX8_next_10 : decode cX8_next 10 = .ok (.if_icmp .eq 16, 3) := by decide +kernel
theorem dX8_next_13 : decode cX8_next 13 = .ok (.aload_n 0, 1) := by decide +kernel
theorem dX8_next_14 : decode cX8_next 14 = .ok (.aload_n 0, 1) := by decide +kernel
theorem dX8_next_15 : decode cX8_next 15 = .ok (.getfield 102, 3) := by decide +kernel
theorem dX8_next_18 : decode cX8_next 18 = .ok (.invokevirtual 105, 3) := by decide +kernel
theorem dX8_next_21 : decode cX8_next 21 = .ok (.bipush 10, 2) := by decide +kernel
theorem dX8_next_23 : decode cX8_next 23 = .ok (.if_icmp .ne 16, 3) := by decide +kernel
theorem dX8_next_26 : decode cX8_next 26 = .ok (.aload_n 0, 1) := by decide +kernel
theorem dX8_next_27 : decode cX8_next 27 = .ok (.dup, 1) := by decide +kernel
theorem dX8_next_28 : decode cX8_next 28 = .ok (.getfield 102, 3) := by decide +kernel
theorem dX8_next_31 : decode cX8_next 31 = .ok (.iconst 1, 1) := by decide +kernel
theorem dX8_next_32 : decode cX8_next 32 = .ok (.iadd, 1) := by decide +kernel
theorem dX8_next_33 : decode cX8_next 33 = .ok (.putfield 102, 3) := by decide +kernel
theorem dX8_next_36 : decode cX8_next 36 = .ok (.goto (-36), 3) := by decide +kernel
theorem dX8_next_39 : decode cX8_next 39 = .ok (.aload_n 0, 1) := by decide +kernel
theorem dX8_next_40 : decode cX8_next 40 = .ok (.aload_n 0, 1) := by decide +kernel
theorem dX8_next_41 : decode cX8_next 41 = .ok (.getfield 102, 3) := by decide +kernel
theorem dX8_next_44 : decode cX8_next 44 = .ok (.putfield 108, 3) := by decide +kernel
theorem dX8_next_47 : decode cX8_next 47 = .ok (.aload_n 0, 1) := by decide +kernel
theorem dX8_next_48 : decode cX8_next 48 = .ok (.aload_n 0, 1) := by decide +kernel
theorem dX8_next_49 : decode cX8_next 49 = .ok (.getfield 102, 3) := by decide +kernel
theorem dX8_next_52 : decode cX8_next 52 = .ok (.invokevirtual 105, 3) := by decide +kernel
theorem dX8_next_55 : decode cX8_next 55 = .ok (.istore_n 1, 1) := by decide +kernel
theorem dX8_next_56 : decode cX8_next 56 = .ok (.iload_n 1, 1) := by decide +kernel
theorem dX8_next_57 : decode cX8_next 57 = .ok (.ldc 101, 2) := by decide +kernel
theorem dX8_next_59 : decode cX8_next 59 = .ok (.if_icmp .ne 11, 3) := by decide +kernel
theorem dX8_next_62 : decode cX8_next 62 = .ok (.aload_n 0, 1) := by decide +kernel
theorem dX8_next_63 : decode cX8_next 63 = .ok (.iconst 1, 1) := by decide +kernel
theorem dX8_next_64 : decode cX8_next 64 = .ok (.putfield 111, 3) := by decide +kernel
theorem dX8_next_67 : decode cX8_next 67 = .ok (.goto 129, 3) := by decide +kernel
theorem dX8_next_70 : decode cX8_next 70 = .ok (.iload_n 1, 1) := by decide +kernel
theorem dX8_next_71 : decode cX8_next 71 = .ok (.invokestatic 114, 3) := by decide +kernel
theorem dX8_next_74 : decode cX8_next 74 = .ok (.ifCond .eq 38, 3) := by decide +kernel
theorem dX8_next_77 : decode cX8_next 77 = .ok (.aload_n 0, 1) := by decide +kernel
theorem dX8_next_78 : decode cX8_next 78 = .ok (.aload_n 0, 1) := by decide +kernel
theorem dX8_next_79 : decode cX8_next 79 = .ok (.getfield 102, 3) := by decide +kernel
theorem dX8_next_82 : decode cX8_next 82 = .ok (.invokevirtual 105, 3) := by decide +kernel
theorem dX8_next_85 : decode cX8_next 85 = .ok (.invokestatic 114, 3) := by decide +kernel
theorem dX8_next_88 : decode cX8_next 88 = .ok (.ifCond .eq 16, 3) := by decide +kernel
theorem dX8_next_91 : decode cX8_next 91 = .ok (.aload_n 0, 1) := by decide +kernel
theorem dX8_next_92 : decode cX8_next 92 = .ok (.dup, 1) := by decide +kernel
theorem dX8_next_93 : decode cX8_next 93 = .ok (.getfield 102, 3) := by decide +kernel
theorem dX8_next_96 : decode cX8_next 96 = .ok (.iconst 1, 1) := by decide +kernel
theorem dX8_next_97 : decode cX8_next 97 = .ok (.iadd, 1) := by decide +kernel
theorem dX8_next_98 : decode cX8_next 98 = .ok (.putfield 102, 3) := by decide +kernel
theorem dX8_next_101 : decode cX8_next 101 = .ok (.goto (-24), 3) := by decide +kernel
theorem dX8_next_104 : decode cX8_next 104 = .ok (.aload_n 0, 1) := by decide +kernel
theorem dX8_next_105 : decode cX8_next 105 = .ok (.iconst 2, 1) := by decide +kernel
theorem dX8_next_106 : decode cX8_next 106 = .ok (.putfield 111, 3) := by decide +kernel
theorem dX8_next_109 : decode cX8_next 109 = .ok (.goto 87, 3) := by decide +kernel
theorem dX8_next_112 : decode cX8_next 112 = .ok (.iload_n 1, 1) := by decide +kernel
theorem dX8_next_113 : decode cX8_next 113 = .ok (.invokestatic 117, 3) := by decide +kernel
theorem dX8_next_116 : decode cX8_next 116 = .ok (.ifCond .eq 55, 3) := by decide +kernel
theorem dX8_next_119 : decode cX8_next 119 = .ok (.aload_n 0, 1) := by decide +kernel
theorem dX8_next_120 : decode cX8_next 120 = .ok (.aload_n 0, 1) := by decide +kernel
theorem dX8_next_121 : decode cX8_next 121 = .ok (.getfield 102, 3) := by decide +kernel
theorem dX8_next_124 : decode cX8_next 124 = .ok (.invokevirtual 105, 3) := by decide +kernel
theorem dX8_next_127 : decode cX8_next 127 = .ok (.invokestatic 117, 3) := by decide +kernel
theorem dX8_next_130 : decode cX8_next 130 = .ok (.ifCond .eq 16, 3) := by decide +kernel
theorem dX8_next_133 : decode cX8_next 133 = .ok (.aload_n 0, 1) := by decide +kernel
theorem dX8_next_134 : decode cX8_next 134 = .ok (.dup, 1) := by decide +kernel
theorem dX8_next_135 : decode cX8_next 135 = .ok (.getfield 102, 3) := by decide +kernel
theorem dX8_next_138 : decode cX8_next 138 = .ok (.iconst 1, 1) := by decide +kernel
theorem dX8_next_139 : decode cX8_next 139 = .ok (.iadd, 1) := by decide +kernel
theorem dX8_next_140 : decode cX8_next 140 = .ok (.putfield 102, 3) := by decide +kernel
theorem dX8_next_143 : decode cX8_next 143 = .ok (.goto (-24), 3) := by decide +kernel
theorem dX8_next_146 : decode cX8_next 146 = .ok (.aload_n 0, 1) := by decide +kernel
theorem dX8_next_147 : decode cX8_next 147 = .ok (.aload_n 0, 1) := by decide +kernel
theorem dX8_next_148 : decode cX8_next 148 = .ok (.getfield 102, 3) := by decide +kernel
theorem dX8_next_151 : decode cX8_next 151 = .ok (.aload_n 0, 1) := by decide +kernel
theorem dX8_next_152 : decode cX8_next 152 = .ok (.getfield 108, 3) := by decide +kernel
theorem dX8_next_155 : decode cX8_next 155 = .ok (.isub, 1) := by decide +kernel
theorem dX8_next_156 : decode cX8_next 156 = .ok (.iconst 3, 1) := by decide +kernel
theorem dX8_next_157 : decode cX8_next 157 = .ok (.if_icmp .le 7, 3) := by decide +kernel
theorem dX8_next_160 : decode cX8_next 160 = .ok (.iconst 0, 1) := by decide +kernel
theorem dX8_next_161 : decode cX8_next 161 = .ok (.goto 4, 3) := by decide +kernel
theorem dX8_next_164 : decode cX8_next 164 = .ok (.iconst 3, 1) := by decide +kernel
theorem dX8_next_165 : decode cX8_next 165 = .ok (.putfield 111, 3) := by decide +kernel
theorem dX8_next_168 : decode cX8_next 168 = .ok (.goto 28, 3) := by decide +kernel
theorem dX8_next_171 : decode cX8_next 171 = .ok (.aload_n 0, 1) := by decide +kernel
theorem dX8_next_172 : decode cX8_next 172 = .ok (.dup, 1) := by decide +kernel
theorem dX8_next_173 : decode cX8_next 173 = .ok (.getfield 102, 3) := by decide +kernel
theorem dX8_next_176 : decode cX8_next 176 = .ok (.iconst 1, 1) := by decide +kernel
theorem dX8_next_177 : decode cX8_next 177 = .ok (.iadd, 1) := by decide +kernel
theorem dX8_next_178 : decode cX8_next 178 = .ok (.putfield 102, 3) := by decide +kernel
theorem dX8_next_181 : decode cX8_next 181 = .ok (.aload_n 0, 1) := by decide +kernel
theorem dX8_next_182 : decode cX8_next 182 = .ok (.iload_n 1, 1) := by decide +kernel
theorem dX8_next_183 : decode cX8_next 183 = .ok (.bipush 59, 2) := by decide +kernel
theorem dX8_next_185 : decode cX8_next 185 = .ok (.if_icmp .ne 7, 3) := by decide +kernel
theorem dX8_next_188 : decode cX8_next 188 = .ok (.iconst 4, 1) := by decide +kernel
theorem dX8_next_189 : decode cX8_next 189 = .ok (.goto 4, 3) := by decide +kernel
theorem dX8_next_192 : decode cX8_next 192 = .ok (.iconst 0, 1) := by decide +kernel
theorem dX8_next_193 : decode cX8_next 193 = .ok (.putfield 111, 3) := by decide +kernel
theorem dX8_next_196 : decode cX8_next 196 = .ok (.aload_n 0, 1) := by decide +kernel
theorem dX8_next_197 : decode cX8_next 197 = .ok (.aload_n 0, 1) := by decide +kernel
theorem dX8_next_198 : decode cX8_next 198 = .ok (.getfield 102, 3) := by decide +kernel
theorem dX8_next_201 : decode cX8_next 201 = .ok (.putfield 120, 3) := by decide +kernel
theorem dX8_next_204 : decode cX8_next 204 = .ok (.return_, 1) := by decide +kernel
theorem yv_X8_next : YV yX8_next cX8_next 2 none 0 := ⟨m1044, ms31, m9, m1045, ⟨by decide +kernel, by decide +kernel, by decide +kernel⟩, by decide⟩
noncomputable def f_X8_next_77 (q : Nat) : Nat → AH → Option (Unit × AH)
  | 0, _ => none
  | n + 1, h => bd (f_X8_byteAt q (h q 14) h) (fun v_2 h_1 => bd (f_X8_isLetter v_2 h_1) (fun v_4 h_3 => if v_4 = 0 then (lt (hset h_3 q 15 2) (fun h_5 => lt (hset h_5 q 17 (h_5 q 14)) (fun h_6 => some ((), h_6)))) else (lt (hset h_3 q 14 ((h_3 q 14) + 1)) (fun h_7 => (f_X8_next_77 q n) h_7))))
set_option maxRecDepth 20000 in
set_option maxHeartbeats 4000000 in
theorem t_X8_next_77 {z : MC} {g : GC} {A : Nat → Prop} (F : Fx z cX8_next 2 RX8 none 2 g A) {q : Nat} (hq : (gL g)[q]? = some (.inl 8)) : ∀ (n : Nat) (h : AH), Snd z 2 g A (QF z g A mkU) 77 [(0, .ref (gad g q))] [] h (f_X8_next_77 q n  h) := by
  intro n
  induction n with
  | zero => intros; exact s_none
  | succ n ih =>
    intro h
    unfold f_X8_next_77
    refine s_aload_n F dX8_next_77 rfl 0 rfl ?_
    refine s_aload_n F dX8_next_78 rfl 0 rfl ?_
    refine s_geti F ciX8 14 hq (by decide) rfl rfl m907 dX8_next_79 ?_
    refine s_callVi (f := fun hh => f_X8_byteAt q (h q 14) hh) (As := [.int (h q 14)]) F yv_X8_byteAt (ct_X8_byteAt z.2.1 g hq (h q 14)) (by decide) m1046 hq rfl rfl rfl (Nat.le_of_ble_eq_true rfl) dX8_next_82 (fun v_2 h_1 e_v_2 => ?_)
    refine s_callSi (f := fun hh => f_X8_isLetter v_2 hh) (As := [.int v_2]) F ys_X8_isLetter (ct_X8_isLetter z.2.1 g v_2) (by decide) m1051 rfl rfl (Nat.le_of_ble_eq_true rfl) dX8_next_85 (fun v_4 h_3 e_v_4 => ?_)
    refine s_if_eq F 104 dX8_next_88 (by decide) (fun _ => ?_) (fun _ => ?_)
    · refine s_aload_n F dX8_next_104 rfl 0 rfl ?_
      refine s_iconst F (v := 2) dX8_next_105 (by decide) ?_
      refine s_put F ciX8 (k := 15) hq (by decide) rfl rfl rfl rfl m908 dX8_next_106 ?_
      refine s_letH (fun h_5 => ?_)
      refine s_goto F 196 dX8_next_109 (by decide) ?_
      refine s_aload_n F dX8_next_196 rfl 0 rfl ?_
      refine s_aload_n F dX8_next_197 rfl 0 rfl ?_
      refine s_geti F ciX8 14 hq (by decide) rfl rfl m907 dX8_next_198 ?_
      refine s_put F ciX8 (k := 17) hq (by decide) rfl rfl rfl rfl m910 dX8_next_201 ?_
      refine s_letH (fun h_6 => ?_)
      exact s_vret F dX8_next_204
    · refine s_aload_n F dX8_next_91 rfl 0 rfl ?_
      refine s_dup F dX8_next_92 rfl ?_
      refine s_geti F ciX8 14 hq (by decide) rfl rfl m907 dX8_next_93 ?_
      refine s_iconst F (v := 1) dX8_next_96 (by decide) ?_
      refine s_iadd F dX8_next_97 ?_
      refine s_put F ciX8 (k := 14) hq (by decide) rfl rfl rfl rfl m907 dX8_next_98 ?_
      refine s_letH (fun h_7 => ?_)
      refine s_goto F 77 dX8_next_101 (by decide) ?_
      exact s_sub [0] rfl (ih h_7)
noncomputable def f_X8_next_119 (q : Nat) : Nat → AH → Option (Unit × AH)
  | 0, _ => none
  | n + 1, h => bd (f_X8_byteAt q (h q 14) h) (fun v_2 h_1 => bd (f_X8_isFigure v_2 h_1) (fun v_4 h_3 => if v_4 = 0 then (if ((h_3 q 14) - (h_3 q 16)) ≤ 3 then (lt (hset h_3 q 15 3) (fun h_5 => lt (hset h_5 q 17 (h_5 q 14)) (fun h_6 => some ((), h_6)))) else (lt (hset h_3 q 15 0) (fun h_7 => lt (hset h_7 q 17 (h_7 q 14)) (fun h_8 => some ((), h_8))))) else (lt (hset h_3 q 14 ((h_3 q 14) + 1)) (fun h_9 => (f_X8_next_119 q n) h_9))))
set_option maxRecDepth 20000 in
set_option maxHeartbeats 4000000 in
theorem t_X8_next_119 {z : MC} {g : GC} {A : Nat → Prop} (F : Fx z cX8_next 2 RX8 none 2 g A) {q : Nat} (hq : (gL g)[q]? = some (.inl 8)) : ∀ (n : Nat) (h : AH), Snd z 2 g A (QF z g A mkU) 119 [(0, .ref (gad g q))] [] h (f_X8_next_119 q n  h) := by
  intro n
  induction n with
  | zero => intros; exact s_none
  | succ n ih =>
    intro h
    unfold f_X8_next_119
    refine s_aload_n F dX8_next_119 rfl 0 rfl ?_
    refine s_aload_n F dX8_next_120 rfl 0 rfl ?_
    refine s_geti F ciX8 14 hq (by decide) rfl rfl m907 dX8_next_121 ?_
    refine s_callVi (f := fun hh => f_X8_byteAt q (h q 14) hh) (As := [.int (h q 14)]) F yv_X8_byteAt (ct_X8_byteAt z.2.1 g hq (h q 14)) (by decide) m1046 hq rfl rfl rfl (Nat.le_of_ble_eq_true rfl) dX8_next_124 (fun v_2 h_1 e_v_2 => ?_)
    refine s_callSi (f := fun hh => f_X8_isFigure v_2 hh) (As := [.int v_2]) F ys_X8_isFigure (ct_X8_isFigure z.2.1 g v_2) (by decide) m1054 rfl rfl (Nat.le_of_ble_eq_true rfl) dX8_next_127 (fun v_4 h_3 e_v_4 => ?_)
    refine s_if_eq F 146 dX8_next_130 (by decide) (fun _ => ?_) (fun _ => ?_)
    · refine s_aload_n F dX8_next_146 rfl 0 rfl ?_
      refine s_aload_n F dX8_next_147 rfl 0 rfl ?_
      refine s_geti F ciX8 14 hq (by decide) rfl rfl m907 dX8_next_148 ?_
      refine s_aload_n F dX8_next_151 rfl 0 rfl ?_
      refine s_geti F ciX8 16 hq (by decide) rfl rfl m909 dX8_next_152 ?_
      refine s_isub F dX8_next_155 ?_
      refine s_iconst F (v := 3) dX8_next_156 (by decide) ?_
      refine s_icmp_le F 164 dX8_next_157 (by decide) (fun _ => ?_) (fun _ => ?_)
      · refine s_iconst F (v := 3) dX8_next_164 (by decide) ?_
        refine s_put F ciX8 (k := 15) hq (by decide) rfl rfl rfl rfl m908 dX8_next_165 ?_
        refine s_letH (fun h_5 => ?_)
        refine s_goto F 196 dX8_next_168 (by decide) ?_
        refine s_aload_n F dX8_next_196 rfl 0 rfl ?_
        refine s_aload_n F dX8_next_197 rfl 0 rfl ?_
        refine s_geti F ciX8 14 hq (by decide) rfl rfl m907 dX8_next_198 ?_
        refine s_put F ciX8 (k := 17) hq (by decide) rfl rfl rfl rfl m910 dX8_next_201 ?_
        refine s_letH (fun h_6 => ?_)
        exact s_vret F dX8_next_204
      · refine s_iconst F (v := 0) dX8_next_160 (by decide) ?_
        refine s_goto F 165 dX8_next_161 (by decide) ?_
        refine s_put F ciX8 (k := 15) hq (by decide) rfl rfl rfl rfl m908 dX8_next_165 ?_
        refine s_letH (fun h_7 => ?_)
        refine s_goto F 196 dX8_next_168 (by decide) ?_
        refine s_aload_n F dX8_next_196 rfl 0 rfl ?_
        refine s_aload_n F dX8_next_197 rfl 0 rfl ?_
        refine s_geti F ciX8 14 hq (by decide) rfl rfl m907 dX8_next_198 ?_
        refine s_put F ciX8 (k := 17) hq (by decide) rfl rfl rfl rfl m910 dX8_next_201 ?_
        refine s_letH (fun h_8 => ?_)
        exact s_vret F dX8_next_204
    · refine s_aload_n F dX8_next_133 rfl 0 rfl ?_
      refine s_dup F dX8_next_134 rfl ?_
      refine s_geti F ciX8 14 hq (by decide) rfl rfl m907 dX8_next_135 ?_
      refine s_iconst F (v := 1) dX8_next_138 (by decide) ?_
      refine s_iadd F dX8_next_139 ?_
      refine s_put F ciX8 (k := 14) hq (by decide) rfl rfl rfl rfl m907 dX8_next_140 ?_
      refine s_letH (fun h_9 => ?_)
      refine s_goto F 119 dX8_next_143 (by decide) ?_
      exact s_sub [0] rfl (ih h_9)
noncomputable def f_X8_next_0 (q : Nat) : Nat → AH → Option (Unit × AH)
  | 0, _ => none
  | n + 1, h => bd (f_X8_byteAt q (h q 14) h) (fun v_2 h_1 => if v_2 = 32 then (lt (hset h_1 q 14 ((h_1 q 14) + 1)) (fun h_3 => (f_X8_next_0 q n) h_3)) else (bd (f_X8_byteAt q (h_1 q 14) h_1) (fun v_5 h_4 => if v_5 = 10 then (lt (hset h_4 q 14 ((h_4 q 14) + 1)) (fun h_20 => (f_X8_next_0 q n) h_20)) else (lt (hset h_4 q 16 (h_4 q 14)) (fun h_6 => bd (f_X8_byteAt q (h_6 q 14) h_6) (fun v_8 h_7 => if v_8 = (-1000000) then (lt (hset h_7 q 15 1) (fun h_18 => lt (hset h_18 q 17 (h_18 q 14)) (fun h_19 => some ((), h_19)))) else (bd (f_X8_isLetter v_8 h_7) (fun v_10 h_9 => if v_10 = 0 then (bd (f_X8_isFigure v_8 h_9) (fun v_12 h_11 => if v_12 = 0 then (lt (hset h_11 q 14 ((h_11 q 14) + 1)) (fun h_13 => if v_8 = 59 then (lt (hset h_13 q 15 4) (fun h_16 => lt (hset h_16 q 17 (h_16 q 14)) (fun h_17 => some ((), h_17)))) else (lt (hset h_13 q 15 0) (fun h_14 => lt (hset h_14 q 17 (h_14 q 14)) (fun h_15 => some ((), h_15)))))) else (f_X8_next_119 q fu h_11))) else (f_X8_next_77 q fu h_9)))))))))
set_option maxRecDepth 20000 in
set_option maxHeartbeats 4000000 in
theorem t_X8_next_0 {z : MC} {g : GC} {A : Nat → Prop} (F : Fx z cX8_next 2 RX8 none 2 g A) {q : Nat} (hq : (gL g)[q]? = some (.inl 8)) : ∀ (n : Nat) (h : AH), Snd z 2 g A (QF z g A mkU) 0 [(0, .ref (gad g q))] [] h (f_X8_next_0 q n  h) := by
  intro n
  induction n with
  | zero => intros; exact s_none
  | succ n ih =>
    intro h
    unfold f_X8_next_0
    refine s_aload_n F dX8_next_0 rfl 0 rfl ?_
    refine s_aload_n F dX8_next_1 rfl 0 rfl ?_
    refine s_geti F ciX8 14 hq (by decide) rfl rfl m907 dX8_next_2 ?_
    refine s_callVi (f := fun hh => f_X8_byteAt q (h q 14) hh) (As := [.int (h q 14)]) F yv_X8_byteAt (ct_X8_byteAt z.2.1 g hq (h q 14)) (by decide) m1046 hq rfl rfl rfl (Nat.le_of_ble_eq_true rfl) dX8_next_5 (fun v_2 h_1 e_v_2 => ?_)
    refine s_bipush F (v := 32) dX8_next_8 (by decide) ?_
    refine s_icmp_eq F 26 dX8_next_10 (by decide) (fun _ => ?_) (fun _ => ?_)
    · refine s_aload_n F dX8_next_26 rfl 0 rfl ?_
      refine s_dup F dX8_next_27 rfl ?_
      refine s_geti F ciX8 14 hq (by decide) rfl rfl m907 dX8_next_28 ?_
      refine s_iconst F (v := 1) dX8_next_31 (by decide) ?_
      refine s_iadd F dX8_next_32 ?_
      refine s_put F ciX8 (k := 14) hq (by decide) rfl rfl rfl rfl m907 dX8_next_33 ?_
      refine s_letH (fun h_3 => ?_)
      refine s_goto F 0 dX8_next_36 (by decide) ?_
      exact s_sub [0] rfl (ih h_3)
    · refine s_aload_n F dX8_next_13 rfl 0 rfl ?_
      refine s_aload_n F dX8_next_14 rfl 0 rfl ?_
      refine s_geti F ciX8 14 hq (by decide) rfl rfl m907 dX8_next_15 ?_
      refine s_callVi (f := fun hh => f_X8_byteAt q (h_1 q 14) hh) (As := [.int (h_1 q 14)]) F yv_X8_byteAt (ct_X8_byteAt z.2.1 g hq (h_1 q 14)) (by decide) m1046 hq rfl rfl rfl (Nat.le_of_ble_eq_true rfl) dX8_next_18 (fun v_5 h_4 e_v_5 => ?_)
      refine s_bipush F (v := 10) dX8_next_21 (by decide) ?_
      refine s_icmp_ne F 39 dX8_next_23 (by decide) (fun _ => ?_) (fun _ => ?_)
      · refine s_aload_n F dX8_next_39 rfl 0 rfl ?_
        refine s_aload_n F dX8_next_40 rfl 0 rfl ?_
        refine s_geti F ciX8 14 hq (by decide) rfl rfl m907 dX8_next_41 ?_
        refine s_put F ciX8 (k := 16) hq (by decide) rfl rfl rfl rfl m909 dX8_next_44 ?_
        refine s_letH (fun h_6 => ?_)
        refine s_aload_n F dX8_next_47 rfl 0 rfl ?_
        refine s_aload_n F dX8_next_48 rfl 0 rfl ?_
        refine s_geti F ciX8 14 hq (by decide) rfl rfl m907 dX8_next_49 ?_
        refine s_callVi (f := fun hh => f_X8_byteAt q (h_6 q 14) hh) (As := [.int (h_6 q 14)]) F yv_X8_byteAt (ct_X8_byteAt z.2.1 g hq (h_6 q 14)) (by decide) m1046 hq rfl rfl rfl (Nat.le_of_ble_eq_true rfl) dX8_next_52 (fun v_8 h_7 e_v_8 => ?_)
        refine s_istore_n F (lv' := [(1, .int v_8), (0, .ref (gad g q))]) dX8_next_55 rfl (by decide) rfl ?_
        refine s_iload_n F dX8_next_56 rfl 0 rfl ?_
        refine s_ldc F (v := (-1000000)) dX8_next_57 m1050 ?_
        refine s_icmp_ne F 70 dX8_next_59 (by decide) (fun _ => ?_) (fun _ => ?_)
        · refine s_iload_n F dX8_next_70 rfl 0 rfl ?_
          refine s_callSi (f := fun hh => f_X8_isLetter v_8 hh) (As := [.int v_8]) F ys_X8_isLetter (ct_X8_isLetter z.2.1 g v_8) (by decide) m1051 rfl rfl (Nat.le_of_ble_eq_true rfl) dX8_next_71 (fun v_10 h_9 e_v_10 => ?_)
          refine s_if_eq F 112 dX8_next_74 (by decide) (fun _ => ?_) (fun _ => ?_)
          · refine s_iload_n F dX8_next_112 rfl 0 rfl ?_
            refine s_callSi (f := fun hh => f_X8_isFigure v_8 hh) (As := [.int v_8]) F ys_X8_isFigure (ct_X8_isFigure z.2.1 g v_8) (by decide) m1054 rfl rfl (Nat.le_of_ble_eq_true rfl) dX8_next_113 (fun v_12 h_11 e_v_12 => ?_)
            refine s_if_eq F 171 dX8_next_116 (by decide) (fun _ => ?_) (fun _ => ?_)
            · refine s_aload_n F dX8_next_171 rfl 1 rfl ?_
              refine s_dup F dX8_next_172 rfl ?_
              refine s_geti F ciX8 14 hq (by decide) rfl rfl m907 dX8_next_173 ?_
              refine s_iconst F (v := 1) dX8_next_176 (by decide) ?_
              refine s_iadd F dX8_next_177 ?_
              refine s_put F ciX8 (k := 14) hq (by decide) rfl rfl rfl rfl m907 dX8_next_178 ?_
              refine s_letH (fun h_13 => ?_)
              refine s_aload_n F dX8_next_181 rfl 1 rfl ?_
              refine s_iload_n F dX8_next_182 rfl 0 rfl ?_
              refine s_bipush F (v := 59) dX8_next_183 (by decide) ?_
              refine s_icmp_ne F 192 dX8_next_185 (by decide) (fun _ => ?_) (fun _ => ?_)
              · refine s_iconst F (v := 0) dX8_next_192 (by decide) ?_
                refine s_put F ciX8 (k := 15) hq (by decide) rfl rfl rfl rfl m908 dX8_next_193 ?_
                refine s_letH (fun h_14 => ?_)
                refine s_aload_n F dX8_next_196 rfl 1 rfl ?_
                refine s_aload_n F dX8_next_197 rfl 1 rfl ?_
                refine s_geti F ciX8 14 hq (by decide) rfl rfl m907 dX8_next_198 ?_
                refine s_put F ciX8 (k := 17) hq (by decide) rfl rfl rfl rfl m910 dX8_next_201 ?_
                refine s_letH (fun h_15 => ?_)
                exact s_vret F dX8_next_204
              · refine s_iconst F (v := 4) dX8_next_188 (by decide) ?_
                refine s_goto F 193 dX8_next_189 (by decide) ?_
                refine s_put F ciX8 (k := 15) hq (by decide) rfl rfl rfl rfl m908 dX8_next_193 ?_
                refine s_letH (fun h_16 => ?_)
                refine s_aload_n F dX8_next_196 rfl 1 rfl ?_
                refine s_aload_n F dX8_next_197 rfl 1 rfl ?_
                refine s_geti F ciX8 14 hq (by decide) rfl rfl m907 dX8_next_198 ?_
                refine s_put F ciX8 (k := 17) hq (by decide) rfl rfl rfl rfl m910 dX8_next_201 ?_
                refine s_letH (fun h_17 => ?_)
                exact s_vret F dX8_next_204
            · exact s_sub [1] rfl (t_X8_next_119 F hq fu h_11)
          · exact s_sub [1] rfl (t_X8_next_77 F hq fu h_9)
        · refine s_aload_n F dX8_next_62 rfl 1 rfl ?_
          refine s_iconst F (v := 1) dX8_next_63 (by decide) ?_
          refine s_put F ciX8 (k := 15) hq (by decide) rfl rfl rfl rfl m908 dX8_next_64 ?_
          refine s_letH (fun h_18 => ?_)
          refine s_goto F 196 dX8_next_67 (by decide) ?_
          refine s_aload_n F dX8_next_196 rfl 1 rfl ?_
          refine s_aload_n F dX8_next_197 rfl 1 rfl ?_
          refine s_geti F ciX8 14 hq (by decide) rfl rfl m907 dX8_next_198 ?_
          refine s_put F ciX8 (k := 17) hq (by decide) rfl rfl rfl rfl m910 dX8_next_201 ?_
          refine s_letH (fun h_19 => ?_)
          exact s_vret F dX8_next_204
      · refine s_aload_n F dX8_next_26 rfl 0 rfl ?_
        refine s_dup F dX8_next_27 rfl ?_
        refine s_geti F ciX8 14 hq (by decide) rfl rfl m907 dX8_next_28 ?_
        refine s_iconst F (v := 1) dX8_next_31 (by decide) ?_
        refine s_iadd F dX8_next_32 ?_
        refine s_put F ciX8 (k := 14) hq (by decide) rfl rfl rfl rfl m907 dX8_next_33 ?_
        refine s_letH (fun h_20 => ?_)
        refine s_goto F 0 dX8_next_36 (by decide) ?_
        exact s_sub [0] rfl (ih h_20)
noncomputable def f_X8_next (q : Nat) (h : AH) : Option (Unit × AH) := f_X8_next_0 q fu h
set_option maxRecDepth 20000 in
set_option maxHeartbeats 4000000 in
theorem ct_X8_next (l : Launch) (g : GC) {q : Nat} (hq : (gL g)[q]? = some (.inl 8)) : Ct l yX8_next cX8_next 2 none 2 [.ref (gad g q)] g mkU (fun h => f_X8_next q h) := by
  refine Ct.of (by decide +kernel) (Nat.le_of_ble_eq_true rfl) (fun z A h _ F => ?_)
  show Snd z 2 g A (QF z g A mkU) 0 [(0, .ref (gad g q))] [] h (f_X8_next q h)
  unfold f_X8_next
  exact s_sub [0] rfl (t_X8_next_0 F hq fu h)
theorem dX8_begin_0 : decode cX8_begin 0 = .ok (.aload_n 0, 1) := by decide +kernel
theorem dX8_begin_1 : decode cX8_begin 1 = .ok (.aload_n 0, 1) := by decide +kernel
theorem dX8_begin_2 : decode cX8_begin 2 = .ok (.getfield 92, 3) := by decide +kernel
theorem dX8_begin_5 : decode cX8_begin 5 = .ok (.putfield 98, 3) := by decide +kernel
theorem dX8_begin_8 : decode cX8_begin 8 = .ok (.aload_n 0, 1) := by decide +kernel
theorem dX8_begin_9 : decode cX8_begin 9 = .ok (.iconst 0, 1) := by decide +kernel
theorem dX8_begin_10 : decode cX8_begin 10 = .ok (.putfield 92, 3) := by decide +kernel
theorem dX8_begin_13 : decode cX8_begin 13 = .ok (.aload_n 0, 1) := by decide +kernel
theorem dX8_begin_14 : decode cX8_begin 14 = .ok (.iconst 0, 1) := by decide +kernel
theorem dX8_begin_15 : decode cX8_begin 15 = .ok (.putfield 102, 3) := by decide +kernel
theorem dX8_begin_18 : decode cX8_begin 18 = .ok (.aload_n 0, 1) := by decide +kernel
theorem dX8_begin_19 : decode cX8_begin 19 = .ok (.iconst 0, 1) := by decide +kernel
theorem dX8_begin_20 : decode cX8_begin 20 = .ok (.putfield 123, 3) := by decide +kernel
theorem dX8_begin_23 : decode cX8_begin 23 = .ok (.aload_n 0, 1) := by decide +kernel
theorem dX8_begin_24 : decode cX8_begin 24 = .ok (.invokevirtual 126, 3) := by decide +kernel
theorem dX8_begin_27 : decode cX8_begin 27 = .ok (.return_, 1) := by decide +kernel
theorem yv_X8_begin : YV yX8_begin cX8_begin 1 none 0 := ⟨m1040, ms30, m9, m1041, ⟨by decide +kernel, by decide +kernel, by decide +kernel⟩, by decide⟩
noncomputable def f_X8_begin (q : Nat) (h : AH) : Option (Unit × AH) := lt (hset h q 13 (h q 11)) (fun h_1 => lt (hset h_1 q 11 0) (fun h_2 => lt (hset h_2 q 14 0) (fun h_3 => lt (hset h_3 q 18 0) (fun h_4 => bd (f_X8_next q h_4) (fun _ h_5 => some ((), h_5))))))
set_option maxRecDepth 20000 in
set_option maxHeartbeats 4000000 in
theorem ct_X8_begin (l : Launch) (g : GC) {q : Nat} (hq : (gL g)[q]? = some (.inl 8)) : Ct l yX8_begin cX8_begin 1 none 3 [.ref (gad g q)] g mkU (fun h => f_X8_begin q h) := by
  refine Ct.of (by decide +kernel) (Nat.le_of_ble_eq_true rfl) (fun z A h _ F => ?_)
  show Snd z 1 g A (QF z g A mkU) 0 [(0, .ref (gad g q))] [] h (f_X8_begin q h)
  unfold f_X8_begin
  refine s_aload_n F dX8_begin_0 rfl 0 rfl ?_
  refine s_aload_n F dX8_begin_1 rfl 0 rfl ?_
  refine s_geti F ciX8 11 hq (by decide) rfl rfl m904 dX8_begin_2 ?_
  refine s_put F ciX8 (k := 13) hq (by decide) rfl rfl rfl rfl m906 dX8_begin_5 ?_
  refine s_letH (fun h_1 => ?_)
  refine s_aload_n F dX8_begin_8 rfl 0 rfl ?_
  refine s_iconst F (v := 0) dX8_begin_9 (by decide) ?_
  refine s_put F ciX8 (k := 11) hq (by decide) rfl rfl rfl rfl m904 dX8_begin_10 ?_
  refine s_letH (fun h_2 => ?_)
  refine s_aload_n F dX8_begin_13 rfl 0 rfl ?_
  refine s_iconst F (v := 0) dX8_begin_14 (by decide) ?_
  refine s_put F ciX8 (k := 14) hq (by decide) rfl rfl rfl rfl m907 dX8_begin_15 ?_
  refine s_letH (fun h_3 => ?_)
  refine s_aload_n F dX8_begin_18 rfl 0 rfl ?_
  refine s_iconst F (v := 0) dX8_begin_19 (by decide) ?_
  refine s_put F ciX8 (k := 18) hq (by decide) rfl rfl rfl rfl m911 dX8_begin_20 ?_
  refine s_letH (fun h_4 => ?_)
  refine s_aload_n F dX8_begin_23 rfl 0 rfl ?_
  refine s_callVu (f := fun hh => f_X8_next q hh) (As := []) F yv_X8_next (ct_X8_next z.2.1 g hq) (by decide) m1042 hq rfl rfl rfl (Nat.le_of_ble_eq_true rfl) dX8_begin_24 (fun _ h_5 e_v_6 => ?_)
  exact s_vret F dX8_begin_27
theorem dX8_name_0 : decode cX8_name 0 = .ok (.lconst 0, 1) := by decide +kernel
theorem dX8_name_1 : decode cX8_name 1 = .ok (.lstore_n 1, 1) := by decide +kernel
theorem dX8_name_2 : decode cX8_name 2 = .ok (.aload_n 0, 1) := by decide +kernel
theorem dX8_name_3 : decode cX8_name 3 = .ok (.getfield 108, 3) := by decide +kernel
theorem dX8_name_6 : decode cX8_name 6 = .ok (.istore_n 3, 1) := by decide +kernel
theorem dX8_name_7 : decode cX8_name 7 = .ok (.iload_n 3, 1) := by decide +kernel
theorem dX8_name_8 : decode cX8_name 8 = .ok (.aload_n 0, 1) := by decide +kernel
theorem dX8_name_9 : decode cX8_name 9 = .ok (.getfield 120, 3) := by decide +kernel
theorem dX8_name_12 : decode cX8_name 12 = .ok (.if_icmp .ge 44, 3) := by decide +kernel
theorem dX8_name_15 : decode cX8_name 15 = .ok (.aload_n 0, 1) := by decide +kernel
theorem dX8_name_16 : decode cX8_name 16 = .ok (.getfield 111, 3) := by decide +kernel
theorem dX8_name_19 : decode cX8_name 19 = .ok (.iconst 2, 1) := by decide +kernel
theorem dX8_name_20 : decode cX8_name 20 = .ok (.if_icmp .ne 36, 3) := by decide +kernel
theorem dX8_name_23 : decode cX8_name 23 = .ok (.aload_n 0, 1) := by decide +kernel
theorem dX8_name_24 : decode cX8_name 24 = .ok (.getfield 120, 3) := by decide +kernel
theorem dX8_name_27 : decode cX8_name 27 = .ok (.aload_n 0, 1) := by decide +kernel
theorem dX8_name_28 : decode cX8_name 28 = .ok (.getfield 108, 3) := by decide +kernel
theorem dX8_name_31 : decode cX8_name 31 = .ok (.isub, 1) := by decide +kernel
theorem dX8_name_32 : decode cX8_name 32 = .ok (.bipush 8, 2) := by decide +kernel
theorem dX8_name_34 : decode cX8_name 34 = .ok (.if_icmp .ge 22, 3) := by decide +kernel
theorem dX8_name_37 : decode cX8_name 37 = .ok (.lload_n 1, 1) := by decide +kernel
theorem dX8_name_38 : decode cX8_name 38 = .ok (.bipush 8, 2) := by decide +kernel
theorem dX8_name_40 : decode cX8_name 40 = .ok (.lshl, 1) := by decide +kernel
theorem dX8_name_41 : decode cX8_name 41 = .ok (.aload_n 0, 1) := by decide +kernel
theorem dX8_name_42 : decode cX8_name 42 = .ok (.getfield 28, 3) := by decide +kernel
theorem dX8_name_45 : decode cX8_name 45 = .ok (.iload_n 3, 1) := by decide +kernel
theorem dX8_name_46 : decode cX8_name 46 = .ok (.iaload, 1) := by decide +kernel
theorem dX8_name_47 : decode cX8_name 47 = .ok (.i2l, 1) := by decide +kernel
theorem dX8_name_48 : decode cX8_name 48 = .ok (.lor, 1) := by decide +kernel
theorem dX8_name_49 : decode cX8_name 49 = .ok (.lstore_n 1, 1) := by decide +kernel
theorem dX8_name_50 : decode cX8_name 50 = .ok (.iinc 3 1, 3) := by decide +kernel
theorem dX8_name_53 : decode cX8_name 53 = .ok (.goto (-46), 3) := by decide +kernel
theorem dX8_name_56 : decode cX8_name 56 = .ok (.aload_n 0, 1) := by decide +kernel
theorem dX8_name_57 : decode cX8_name 57 = .ok (.getfield 123, 3) := by decide +kernel
theorem dX8_name_60 : decode cX8_name 60 = .ok (.ifCond .ne 7, 3) := by decide +kernel
theorem dX8_name_63 : decode cX8_name 63 = .ok (.lload_n 1, 1) := by decide +kernel
theorem dX8_name_64 : decode cX8_name 64 = .ok (.goto 4, 3) := by decide +kernel
theorem dX8_name_67 : decode cX8_name 67 = .ok (.lconst 0, 1) := by decide +kernel
theorem dX8_name_68 : decode cX8_name 68 = .ok (.lreturn, 1) := by decide +kernel
theorem yv_X8_name : YV yX8_name cX8_name 4 (some .long) 0 := ⟨m1063, ms34, m9, m1064, ⟨by decide +kernel, by decide +kernel, by decide +kernel⟩, by decide⟩
noncomputable def f_X8_name_56 (q : Nat) (x1 : Int64) (h : AH) : Option (Int64 × AH) := if (h q 18) = 0 then (some (x1, h)) else (some (0, h))
set_option maxRecDepth 20000 in
set_option maxHeartbeats 4000000 in
theorem t_X8_name_56 {z : MC} {g : GC} {A : Nat → Prop} (F : Fx z cX8_name 4 RX8 (some .long) 1 g A) {q : Nat} (hq : (gL g)[q]? = some (.inl 8)) : ∀ (x1 : Int64) (h : AH), Snd z 4 g A (QF z g A mkL) 56 [(0, .ref (gad g q)), (1, .long x1)] [] h (f_X8_name_56 q x1 h) := by
  intro x1 h
  unfold f_X8_name_56
  refine s_aload_n F dX8_name_56 rfl 0 rfl ?_
  refine s_geti F ciX8 18 hq (by decide) rfl rfl m911 dX8_name_57 ?_
  refine s_if_ne F 67 dX8_name_60 (by decide) (fun _ => ?_) (fun _ => ?_)
  · refine s_lconst F (v := 0) dX8_name_67 (by decide) ?_
    exact s_lret F dX8_name_68
  · refine s_lload_n F dX8_name_63 rfl 1 rfl ?_
    refine s_goto F 68 dX8_name_64 (by decide) ?_
    exact s_lret F dX8_name_68
noncomputable def f_X8_name_7 (q : Nat) : Nat → Int64 → Int32 → AH → Option (Int64 × AH)
  | 0, _, _, _ => none
  | n + 1, x1, x3, h => if (h q 17) ≤ x3 then (f_X8_name_56 q x1 h) else (if (h q 15) = 2 then (if (8 : Int32) ≤ ((h q 17) - (h q 16)) then (f_X8_name_56 q x1 h) else (ck x3 500 (lt (((x1 <<< ((8 : Int32).toInt64 &&& 63)) ||| ((h (q + 7) (x3 : Int32).toNatClampNeg : Int32).toInt64))) (fun v_2 => lt (x3 + 1) (fun v_3 => (f_X8_name_7 q n) v_2 v_3 h))))) else (f_X8_name_56 q x1 h))
set_option maxRecDepth 20000 in
set_option maxHeartbeats 4000000 in
theorem t_X8_name_7 {z : MC} {g : GC} {A : Nat → Prop} (F : Fx z cX8_name 4 RX8 (some .long) 1 g A) {q : Nat} (hq : (gL g)[q]? = some (.inl 8)) : ∀ (n : Nat) (x1 : Int64) (x3 : Int32) (h : AH), Snd z 4 g A (QF z g A mkL) 7 [(0, .ref (gad g q)), (1, .long x1), (3, .int x3)] [] h (f_X8_name_7 q n x1 x3 h) := by
  intro n
  induction n with
  | zero => intros; exact s_none
  | succ n ih =>
    intro x1 x3 h
    unfold f_X8_name_7
    refine s_iload_n F dX8_name_7 rfl 2 rfl ?_
    refine s_aload_n F dX8_name_8 rfl 0 rfl ?_
    refine s_geti F ciX8 17 hq (by decide) rfl rfl m910 dX8_name_9 ?_
    refine s_icmp_ge F 56 dX8_name_12 (by decide) (fun _ => ?_) (fun _ => ?_)
    · exact s_sub [0, 1] rfl (t_X8_name_56 F hq x1 h)
    · refine s_aload_n F dX8_name_15 rfl 0 rfl ?_
      refine s_geti F ciX8 15 hq (by decide) rfl rfl m908 dX8_name_16 ?_
      refine s_iconst F (v := 2) dX8_name_19 (by decide) ?_
      refine s_icmp_ne F 56 dX8_name_20 (by decide) (fun _ => ?_) (fun _ => ?_)
      · exact s_sub [0, 1] rfl (t_X8_name_56 F hq x1 h)
      · refine s_aload_n F dX8_name_23 rfl 0 rfl ?_
        refine s_geti F ciX8 17 hq (by decide) rfl rfl m910 dX8_name_24 ?_
        refine s_aload_n F dX8_name_27 rfl 0 rfl ?_
        refine s_geti F ciX8 16 hq (by decide) rfl rfl m909 dX8_name_28 ?_
        refine s_isub F dX8_name_31 ?_
        refine s_bipush F (v := 8) dX8_name_32 (by decide) ?_
        refine s_icmp_ge F 56 dX8_name_34 (by decide) (fun _ => ?_) (fun _ => ?_)
        · exact s_sub [0, 1] rfl (t_X8_name_56 F hq x1 h)
        · refine s_lload_n F dX8_name_37 rfl 1 rfl ?_
          refine s_bipush F (v := 8) dX8_name_38 (by decide) ?_
          refine s_lshl F dX8_name_40 ?_
          refine s_aload_n F dX8_name_41 rfl 0 rfl ?_
          have hw_1 := wf_ref F.2.2.2.2.2.2.1 hq 10 7 (.inr (0, 500)) rfl
          refine s_getr F ciX8 10 7 (.inr (0, 500)) hq (by decide) rfl rfl m903 dX8_name_42 ?_
          refine s_iload_n F dX8_name_45 rfl 2 rfl ?_
          refine s_iald F hw_1 dX8_name_46 ?_
          refine s_i2l F dX8_name_47 ?_
          refine s_lor F dX8_name_48 ?_
          refine s_letl (fun v_2 => ?_)
          refine s_lstore_n F (lv' := [(1, .long v_2), (0, .ref (gad g q)), (3, .int x3)]) dX8_name_49 rfl (by decide) rfl ?_
          refine s_iincv F dX8_name_50 2 rfl (by decide) (c := 1) (by decide) (fun v_3 => ?_)
          refine s_lv (lv' := [(3, .int v_3), (1, .long v_2), (0, .ref (gad g q))]) rfl ?_
          refine s_goto F 7 dX8_name_53 (by decide) ?_
          exact s_sub [2, 1, 0] rfl (ih v_2 v_3 h)
noncomputable def f_X8_name (q : Nat) (h : AH) : Option (Int64 × AH) := lt (h q 16) (fun v_1 => f_X8_name_7 q fu 0 v_1 h)
set_option maxRecDepth 20000 in
set_option maxHeartbeats 4000000 in
theorem ct_X8_name (l : Launch) (g : GC) {q : Nat} (hq : (gL g)[q]? = some (.inl 8)) : Ct l yX8_name cX8_name 4 (some .long) 1 [.ref (gad g q)] g mkL (fun h => f_X8_name q h) := by
  refine Ct.of (by decide +kernel) (Nat.le_of_ble_eq_true rfl) (fun z A h _ F => ?_)
  show Snd z 4 g A (QF z g A mkL) 0 [(0, .ref (gad g q))] [] h (f_X8_name q h)
  unfold f_X8_name
  refine s_lconst F (v := 0) dX8_name_0 (by decide) ?_
  refine s_lstore_n F (lv' := [(1, .long 0), (0, .ref (gad g q))]) dX8_name_1 rfl (by decide) rfl ?_
  refine s_aload_n F dX8_name_2 rfl 1 rfl ?_
  refine s_geti F ciX8 16 hq (by decide) rfl rfl m909 dX8_name_3 ?_
  refine s_leti (fun v_1 => ?_)
  refine s_istore_n F (lv' := [(3, .int v_1), (1, .long 0), (0, .ref (gad g q))]) dX8_name_6 rfl (by decide) rfl ?_
  exact s_sub [2, 1, 0] rfl (t_X8_name_7 F hq fu 0 v_1 h)
theorem dX8_must_0 : decode cX8_must 0 = .ok (.iload_n 1, 1) := by decide +kernel
theorem dX8_must_1 : decode cX8_must 1 = .ok (.ifCond .ne 8, 3) := by decide +kernel
theorem dX8_must_4 : decode cX8_must 4 = .ok (.aload_n 0, 1) := by decide +kernel
theorem dX8_must_5 : decode cX8_must 5 = .ok (.iconst 1, 1) := by decide +kernel
theorem dX8_must_6 : decode cX8_must 6 = .ok (.invokevirtual 132, 3) := by decide +kernel
theorem dX8_must_9 : decode cX8_must 9 = .ok (.aload_n 0, 1) := by decide +kernel
theorem dX8_must_10 : decode cX8_must 10 = .ok (.getfield 123, 3) := by decide +kernel
theorem dX8_must_13 : decode cX8_must 13 = .ok (.ifCond .ne 7, 3) := by decide +kernel
theorem dX8_must_16 : decode cX8_must 16 = .ok (.aload_n 0, 1) := by decide +kernel
theorem dX8_must_17 : decode cX8_must 17 = .ok (.invokevirtual 126, 3) := by decide +kernel
theorem dX8_must_20 : decode cX8_must 20 = .ok (.return_, 1) := by decide +kernel
theorem yv_X8_must : YV yX8_must cX8_must 2 none 1 := ⟨m1068, ms35, m9, m1069, ⟨by decide +kernel, by decide +kernel, by decide +kernel⟩, by decide⟩
noncomputable def f_X8_must_9 (q : Nat) (h : AH) : Option (Unit × AH) := if (h q 18) = 0 then (bd (f_X8_next q h) (fun _ h_1 => some ((), h_1))) else (some ((), h))
set_option maxRecDepth 20000 in
set_option maxHeartbeats 4000000 in
theorem t_X8_must_9 {z : MC} {g : GC} {A : Nat → Prop} (F : Fx z cX8_must 2 RX8 none 3 g A) {q : Nat} (hq : (gL g)[q]? = some (.inl 8)) : ∀ (h : AH), Snd z 2 g A (QF z g A mkU) 9 [(0, .ref (gad g q))] [] h (f_X8_must_9 q  h) := by
  intro h
  unfold f_X8_must_9
  refine s_aload_n F dX8_must_9 rfl 0 rfl ?_
  refine s_geti F ciX8 18 hq (by decide) rfl rfl m911 dX8_must_10 ?_
  refine s_if_ne F 20 dX8_must_13 (by decide) (fun _ => ?_) (fun _ => ?_)
  · exact s_vret F dX8_must_20
  · refine s_aload_n F dX8_must_16 rfl 0 rfl ?_
    refine s_callVu (f := fun hh => f_X8_next q hh) (As := []) F yv_X8_next (ct_X8_next z.2.1 g hq) (by decide) m1042 hq rfl rfl rfl (Nat.le_of_ble_eq_true rfl) dX8_must_17 (fun _ h_1 e_v_2 => ?_)
    exact s_vret F dX8_must_20
noncomputable def f_X8_must (q : Nat) (x1 : Int32) (h : AH) : Option (Unit × AH) := if x1 = 0 then (bd (f_X8_bad q 1 h) (fun _ h_1 => f_X8_must_9 q h_1)) else (f_X8_must_9 q h)
set_option maxRecDepth 20000 in
set_option maxHeartbeats 4000000 in
theorem ct_X8_must (l : Launch) (g : GC) {q : Nat} (hq : (gL g)[q]? = some (.inl 8)) (x1 : Int32) : Ct l yX8_must cX8_must 2 none 3 [.ref (gad g q), .int x1] g mkU (fun h => f_X8_must q x1 h) := by
  refine Ct.of (by decide +kernel) (Nat.le_of_ble_eq_true rfl) (fun z A h _ F => ?_)
  show Snd z 2 g A (QF z g A mkU) 0 [(0, .ref (gad g q)), (1, .int x1)] [] h (f_X8_must q x1 h)
  unfold f_X8_must
  refine s_iload_n F dX8_must_0 rfl 1 rfl ?_
  refine s_if_ne F 9 dX8_must_1 (by decide) (fun _ => ?_) (fun _ => ?_)
  · exact s_sub [0] rfl (t_X8_must_9 F hq h)
  · refine s_aload_n F dX8_must_4 rfl 0 rfl ?_
    refine s_iconst F (v := 1) dX8_must_5 (by decide) ?_
    refine s_callVu (f := fun hh => f_X8_bad q 1 hh) (As := [.int 1]) F yv_X8_bad (ct_X8_bad z.2.1 g hq 1) (by decide) m1070 hq rfl rfl rfl (Nat.le_of_ble_eq_true rfl) dX8_must_6 (fun _ h_1 e_v_2 => ?_)
    exact s_sub [0] rfl (t_X8_must_9 F hq h_1)
theorem dX8_begins_0 : decode cX8_begins 0 = .ok (.aload_n 0, 1) := by decide +kernel
theorem dX8_begins_1 : decode cX8_begins 1 = .ok (.getfield 22, 3) := by decide +kernel
theorem dX8_begins_4 : decode cX8_begins 4 = .ok (.iload_n 1, 1) := by decide +kernel
theorem dX8_begins_5 : decode cX8_begins 5 = .ok (.iaload, 1) := by decide +kernel
theorem dX8_begins_6 : decode cX8_begins 6 = .ok (.iload_n 2, 1) := by decide +kernel
theorem dX8_begins_7 : decode cX8_begins 7 = .ok (.if_icmp .ne 8, 3) := by decide +kernel
theorem dX8_begins_10 : decode cX8_begins 10 = .ok (.aload_n 0, 1) := by decide +kernel
theorem dX8_begins_11 : decode cX8_begins 11 = .ok (.iconst 3, 1) := by decide +kernel
theorem dX8_begins_12 : decode cX8_begins 12 = .ok (.invokevirtual 132, 3) := by decide +kernel
theorem dX8_begins_15 : decode cX8_begins 15 = .ok (.aload_n 0, 1) := by decide +kernel
theorem dX8_begins_16 : decode cX8_begins 16 = .ok (.iconst 1, 1) := by decide +kernel
theorem dX8_begins_17 : decode cX8_begins 17 = .ok (.invokevirtual 140, 3) := by decide +kernel
theorem dX8_begins_20 : decode cX8_begins 20 = .ok (.return_, 1) := by decide +kernel
theorem yv_X8_begins : YV yX8_begins cX8_begins 3 none 2 := ⟨m1093, ms41, m9, m1094, ⟨by decide +kernel, by decide +kernel, by decide +kernel⟩, by decide⟩
noncomputable def f_X8_begins (q : Nat) (x1 : Int32) (x2 : Int32) (h : AH) : Option (Unit × AH) := ck x1 100 (if (h (q + 5) (x1 : Int32).toNatClampNeg) = x2 then (bd (f_X8_bad q 3 h) (fun _ h_4 => bd (f_X8_must q 1 h_4) (fun _ h_6 => some ((), h_6)))) else (bd (f_X8_must q 1 h) (fun _ h_2 => some ((), h_2))))
set_option maxRecDepth 20000 in
set_option maxHeartbeats 4000000 in
theorem ct_X8_begins (l : Launch) (g : GC) {q : Nat} (hq : (gL g)[q]? = some (.inl 8)) (x1 : Int32) (x2 : Int32) : Ct l yX8_begins cX8_begins 3 none 4 [.ref (gad g q), .int x1, .int x2] g mkU (fun h => f_X8_begins q x1 x2 h) := by
  refine Ct.of (by decide +kernel) (Nat.le_of_ble_eq_true rfl) (fun z A h _ F => ?_)
  show Snd z 3 g A (QF z g A mkU) 0 [(0, .ref (gad g q)), (1, .int x1), (2, .int x2)] [] h (f_X8_begins q x1 x2 h)
  unfold f_X8_begins
  refine s_aload_n F dX8_begins_0 rfl 0 rfl ?_
  have hw_1 := wf_ref F.2.2.2.2.2.2.1 hq 6 5 (.inr (0, 100)) rfl
  refine s_getr F ciX8 6 5 (.inr (0, 100)) hq (by decide) rfl rfl m899 dX8_begins_1 ?_
  refine s_iload_n F dX8_begins_4 rfl 1 rfl ?_
  refine s_iald F hw_1 dX8_begins_5 ?_
  refine s_iload_n F dX8_begins_6 rfl 2 rfl ?_
  refine s_icmp_ne F 15 dX8_begins_7 (by decide) (fun _ => ?_) (fun _ => ?_)
  · refine s_aload_n F dX8_begins_15 rfl 0 rfl ?_
    refine s_iconst F (v := 1) dX8_begins_16 (by decide) ?_
    refine s_callVu (f := fun hh => f_X8_must q 1 hh) (As := [.int 1]) F yv_X8_must (ct_X8_must z.2.1 g hq 1) (by decide) m1066 hq rfl rfl rfl (Nat.le_of_ble_eq_true rfl) dX8_begins_17 (fun _ h_2 e_v_3 => ?_)
    exact s_vret F dX8_begins_20
  · refine s_aload_n F dX8_begins_10 rfl 0 rfl ?_
    refine s_iconst F (v := 3) dX8_begins_11 (by decide) ?_
    refine s_callVu (f := fun hh => f_X8_bad q 3 hh) (As := [.int 3]) F yv_X8_bad (ct_X8_bad z.2.1 g hq 3) (by decide) m1070 hq rfl rfl rfl (Nat.le_of_ble_eq_true rfl) dX8_begins_12 (fun _ h_4 e_v_5 => ?_)
    refine s_aload_n F dX8_begins_15 rfl 0 rfl ?_
    refine s_iconst F (v := 1) dX8_begins_16 (by decide) ?_
    refine s_callVu (f := fun hh => f_X8_must q 1 hh) (As := [.int 1]) F yv_X8_must (ct_X8_must z.2.1 g hq 1) (by decide) m1066 hq rfl rfl rfl (Nat.le_of_ble_eq_true rfl) dX8_begins_17 (fun _ h_6 e_v_7 => ?_)
    exact s_vret F dX8_begins_20
theorem dX8_mustEnd_0 : decode cX8_mustEnd 0 = .ok (.aload_n 0, 1) := by decide +kernel
theorem dX8_mustEnd_1 : decode cX8_mustEnd 1 = .ok (.getfield 123, 3) := by decide +kernel
theorem dX8_mustEnd_4 : decode cX8_mustEnd 4 = .ok (.ifCond .ne 20, 3) := by decide +kernel
theorem dX8_mustEnd_7 : decode cX8_mustEnd 7 = .ok (.aload_n 0, 1) := by decide +kernel
theorem dX8_mustEnd_8 : decode cX8_mustEnd 8 = .ok (.aload_n 0, 1) := by decide +kernel
theorem dX8_mustEnd_9 : decode cX8_mustEnd 9 = .ok (.getfield 111, 3) := by decide +kernel
theorem dX8_mustEnd_12 : decode cX8_mustEnd 12 = .ok (.iconst 4, 1) := by decide +kernel
theorem dX8_mustEnd_13 : decode cX8_mustEnd 13 = .ok (.if_icmp .ne 7, 3) := by decide +kernel
theorem dX8_mustEnd_16 : decode cX8_mustEnd 16 = .ok (.iconst 1, 1) := by decide +kernel
theorem dX8_mustEnd_17 : decode cX8_mustEnd 17 = .ok (.goto 4, 3) := by decide +kernel
theorem dX8_mustEnd_20 : decode cX8_mustEnd 20 = .ok (.iconst 0, 1) := by decide +kernel
theorem dX8_mustEnd_21 : decode cX8_mustEnd 21 = .ok (.invokevirtual 140, 3) := by decide +kernel
theorem dX8_mustEnd_24 : decode cX8_mustEnd 24 = .ok (.return_, 1) := by decide +kernel
theorem yv_X8_mustEnd : YV yX8_mustEnd cX8_mustEnd 1 none 0 := ⟨m1084, ms39, m9, m1085, ⟨by decide +kernel, by decide +kernel, by decide +kernel⟩, by decide⟩
noncomputable def f_X8_mustEnd (q : Nat) (h : AH) : Option (Unit × AH) := if (h q 18) = 0 then (if (h q 15) = 4 then (bd (f_X8_must q 1 h) (fun _ h_3 => some ((), h_3))) else (bd (f_X8_must q 0 h) (fun _ h_1 => some ((), h_1)))) else (some ((), h))
set_option maxRecDepth 20000 in
set_option maxHeartbeats 4000000 in
theorem ct_X8_mustEnd (l : Launch) (g : GC) {q : Nat} (hq : (gL g)[q]? = some (.inl 8)) : Ct l yX8_mustEnd cX8_mustEnd 1 none 4 [.ref (gad g q)] g mkU (fun h => f_X8_mustEnd q h) := by
  refine Ct.of (by decide +kernel) (Nat.le_of_ble_eq_true rfl) (fun z A h _ F => ?_)
  show Snd z 1 g A (QF z g A mkU) 0 [(0, .ref (gad g q))] [] h (f_X8_mustEnd q h)
  unfold f_X8_mustEnd
  refine s_aload_n F dX8_mustEnd_0 rfl 0 rfl ?_
  refine s_geti F ciX8 18 hq (by decide) rfl rfl m911 dX8_mustEnd_1 ?_
  refine s_if_ne F 24 dX8_mustEnd_4 (by decide) (fun _ => ?_) (fun _ => ?_)
  · exact s_vret F dX8_mustEnd_24
  · refine s_aload_n F dX8_mustEnd_7 rfl 0 rfl ?_
    refine s_aload_n F dX8_mustEnd_8 rfl 0 rfl ?_
    refine s_geti F ciX8 15 hq (by decide) rfl rfl m908 dX8_mustEnd_9 ?_
    refine s_iconst F (v := 4) dX8_mustEnd_12 (by decide) ?_
    refine s_icmp_ne F 20 dX8_mustEnd_13 (by decide) (fun _ => ?_) (fun _ => ?_)
    · refine s_iconst F (v := 0) dX8_mustEnd_20 (by decide) ?_
      refine s_callVu (f := fun hh => f_X8_must q 0 hh) (As := [.int 0]) F yv_X8_must (ct_X8_must z.2.1 g hq 0) (by decide) m1066 hq rfl rfl rfl (Nat.le_of_ble_eq_true rfl) dX8_mustEnd_21 (fun _ h_1 e_v_2 => ?_)
      exact s_vret F dX8_mustEnd_24
    · refine s_iconst F (v := 1) dX8_mustEnd_16 (by decide) ?_
      refine s_goto F 21 dX8_mustEnd_17 (by decide) ?_
      refine s_callVu (f := fun hh => f_X8_must q 1 hh) (As := [.int 1]) F yv_X8_must (ct_X8_must z.2.1 g hq 1) (by decide) m1066 hq rfl rfl rfl (Nat.le_of_ble_eq_true rfl) dX8_mustEnd_21 (fun _ h_3 e_v_4 => ?_)
      exact s_vret F dX8_mustEnd_24
theorem dX8_figures_0 : decode cX8_figures 0 = .ok (.iconst 0, 1) := by decide +kernel
theorem dX8_figures_1 : decode cX8_figures 1 = .ok (.istore_n 1, 1) := by decide +kernel
theorem dX8_figures_2 : decode cX8_figures 2 = .ok (.aload_n 0, 1) := by decide +kernel
theorem dX8_figures_3 : decode cX8_figures 3 = .ok (.getfield 108, 3) := by decide +kernel
theorem dX8_figures_6 : decode cX8_figures 6 = .ok (.istore_n 2, 1) := by decide +kernel
theorem dX8_figures_7 : decode cX8_figures 7 = .ok (.iload_n 2, 1) := by decide +kernel
theorem dX8_figures_8 : decode cX8_figures 8 = .ok (.aload_n 0, 1) := by decide +kernel
theorem dX8_figures_9 : decode cX8_figures 9 = .ok (.getfield 120, 3) := by decide +kernel
theorem dX8_figures_12 : decode cX8_figures 12 = .ok (.if_icmp .ge 32, 3) := by decide +kernel
theorem dX8_figures_15 : decode cX8_figures 15 = .ok (.aload_n 0, 1) := by decide +kernel
theorem dX8_figures_16 : decode cX8_figures 16 = .ok (.getfield 111, 3) := by decide +kernel
theorem dX8_figures_19 : decode cX8_figures 19 = .ok (.iconst 3, 1) := by decide +kernel
theorem dX8_figures_20 : decode cX8_figures 20 = .ok (.if_icmp .ne 24, 3) := by decide +kernel
theorem dX8_figures_23 : decode cX8_figures 23 = .ok (.bipush 10, 2) := by decide +kernel
theorem dX8_figures_25 : decode cX8_figures 25 = .ok (.iload_n 1, 1) := by decide +kernel
theorem dX8_figures_26 : decode cX8_figures 26 = .ok (.imul, 1) := by decide +kernel
theorem dX8_figures_27 : decode cX8_figures 27 = .ok (.aload_n 0, 1) := by decide +kernel
theorem dX8_figures_28 : decode cX8_figures 28 = .ok (.getfield 28, 3) := by decide +kernel
theorem dX8_figures_31 : decode cX8_figures 31 = .ok (.iload_n 2, 1) := by decide +kernel
theorem dX8_figures_32 : decode cX8_figures 32 = .ok (.iaload, 1) := by decide +kernel
theorem dX8_figures_33 : decode cX8_figures 33 = .ok (.iadd, 1) := by decide +kernel
theorem dX8_figures_34 : decode cX8_figures 34 = .ok (.bipush 48, 2) := by decide +kernel
theorem dX8_figures_36 : decode cX8_figures 36 = .ok (.isub, 1) := by decide +kernel
theorem dX8_figures_37 : decode cX8_figures 37 = .ok (.istore_n 1, 1) := by decide +kernel
theorem dX8_figures_38 : decode cX8_figures 38 = .ok (.iinc 2 1, 3) := by decide +kernel
theorem dX8_figures_41 : decode cX8_figures 41 = .ok (.goto (-34), 3) := by decide +kernel
theorem dX8_figures_44 : decode cX8_figures 44 = .ok (.iload_n 1, 1) := by decide +kernel
theorem dX8_figures_45 : decode cX8_figures 45 = .ok (.ireturn, 1) := by decide +kernel
theorem yv_X8_figures : YV yX8_figures cX8_figures 3 (some .int) 0 := ⟨m1080, ms38, m9, m1081, ⟨by decide +kernel, by decide +kernel, by decide +kernel⟩, by decide⟩
noncomputable def f_X8_figures_7 (q : Nat) : Nat → Int32 → Int32 → AH → Option (Int32 × AH)
  | 0, _, _, _ => none
  | n + 1, x1, x2, h => if (h q 17) ≤ x2 then (some (x1, h)) else (if (h q 15) = 3 then (ck x2 500 (lt ((((10 * x1) + (h (q + 7) (x2 : Int32).toNatClampNeg)) - 48)) (fun v_2 => lt (x2 + 1) (fun v_3 => (f_X8_figures_7 q n) v_2 v_3 h)))) else (some (x1, h)))
set_option maxRecDepth 20000 in
set_option maxHeartbeats 4000000 in
theorem t_X8_figures_7 {z : MC} {g : GC} {A : Nat → Prop} (F : Fx z cX8_figures 3 RX8 (some .int) 1 g A) {q : Nat} (hq : (gL g)[q]? = some (.inl 8)) : ∀ (n : Nat) (x1 : Int32) (x2 : Int32) (h : AH), Snd z 3 g A (QF z g A mkI) 7 [(0, .ref (gad g q)), (1, .int x1), (2, .int x2)] [] h (f_X8_figures_7 q n x1 x2 h) := by
  intro n
  induction n with
  | zero => intros; exact s_none
  | succ n ih =>
    intro x1 x2 h
    unfold f_X8_figures_7
    refine s_iload_n F dX8_figures_7 rfl 2 rfl ?_
    refine s_aload_n F dX8_figures_8 rfl 0 rfl ?_
    refine s_geti F ciX8 17 hq (by decide) rfl rfl m910 dX8_figures_9 ?_
    refine s_icmp_ge F 44 dX8_figures_12 (by decide) (fun _ => ?_) (fun _ => ?_)
    · refine s_iload_n F dX8_figures_44 rfl 1 rfl ?_
      exact s_iret F dX8_figures_45
    · refine s_aload_n F dX8_figures_15 rfl 0 rfl ?_
      refine s_geti F ciX8 15 hq (by decide) rfl rfl m908 dX8_figures_16 ?_
      refine s_iconst F (v := 3) dX8_figures_19 (by decide) ?_
      refine s_icmp_ne F 44 dX8_figures_20 (by decide) (fun _ => ?_) (fun _ => ?_)
      · refine s_iload_n F dX8_figures_44 rfl 1 rfl ?_
        exact s_iret F dX8_figures_45
      · refine s_bipush F (v := 10) dX8_figures_23 (by decide) ?_
        refine s_iload_n F dX8_figures_25 rfl 1 rfl ?_
        refine s_imul F dX8_figures_26 ?_
        refine s_aload_n F dX8_figures_27 rfl 0 rfl ?_
        have hw_1 := wf_ref F.2.2.2.2.2.2.1 hq 10 7 (.inr (0, 500)) rfl
        refine s_getr F ciX8 10 7 (.inr (0, 500)) hq (by decide) rfl rfl m903 dX8_figures_28 ?_
        refine s_iload_n F dX8_figures_31 rfl 2 rfl ?_
        refine s_iald F hw_1 dX8_figures_32 ?_
        refine s_iadd F dX8_figures_33 ?_
        refine s_bipush F (v := 48) dX8_figures_34 (by decide) ?_
        refine s_isub F dX8_figures_36 ?_
        refine s_leti (fun v_2 => ?_)
        refine s_istore_n F (lv' := [(1, .int v_2), (0, .ref (gad g q)), (2, .int x2)]) dX8_figures_37 rfl (by decide) rfl ?_
        refine s_iincv F dX8_figures_38 2 rfl (by decide) (c := 1) (by decide) (fun v_3 => ?_)
        refine s_lv (lv' := [(2, .int v_3), (1, .int v_2), (0, .ref (gad g q))]) rfl ?_
        refine s_goto F 7 dX8_figures_41 (by decide) ?_
        exact s_sub [2, 1, 0] rfl (ih v_2 v_3 h)
noncomputable def f_X8_figures (q : Nat) (h : AH) : Option (Int32 × AH) := lt (h q 16) (fun v_1 => f_X8_figures_7 q fu 0 v_1 h)
set_option maxRecDepth 20000 in
set_option maxHeartbeats 4000000 in
theorem ct_X8_figures (l : Launch) (g : GC) {q : Nat} (hq : (gL g)[q]? = some (.inl 8)) : Ct l yX8_figures cX8_figures 3 (some .int) 1 [.ref (gad g q)] g mkI (fun h => f_X8_figures q h) := by
  refine Ct.of (by decide +kernel) (Nat.le_of_ble_eq_true rfl) (fun z A h _ F => ?_)
  show Snd z 3 g A (QF z g A mkI) 0 [(0, .ref (gad g q))] [] h (f_X8_figures q h)
  unfold f_X8_figures
  refine s_iconst F (v := 0) dX8_figures_0 (by decide) ?_
  refine s_istore_n F (lv' := [(1, .int 0), (0, .ref (gad g q))]) dX8_figures_1 rfl (by decide) rfl ?_
  refine s_aload_n F dX8_figures_2 rfl 1 rfl ?_
  refine s_geti F ciX8 16 hq (by decide) rfl rfl m909 dX8_figures_3 ?_
  refine s_leti (fun v_1 => ?_)
  refine s_istore_n F (lv' := [(2, .int v_1), (1, .int 0), (0, .ref (gad g q))]) dX8_figures_6 rfl (by decide) rfl ?_
  exact s_sub [2, 1, 0] rfl (t_X8_figures_7 F hq fu 0 v_1 h)
theorem dX8_number_0 : decode cX8_number 0 = .ok (.aload_n 0, 1) := by decide +kernel
theorem dX8_number_1 : decode cX8_number 1 = .ok (.getfield 123, 3) := by decide +kernel
theorem dX8_number_4 : decode cX8_number 4 = .ok (.ifCond .le 5, 3) := by decide +kernel
theorem dX8_number_7 : decode cX8_number 7 = .ok (.iconst 0, 1) := by decide +kernel
theorem dX8_number_8 : decode cX8_number 8 = .ok (.ireturn, 1) := by decide +kernel
theorem dX8_number_9 : decode cX8_number 9 = .ok (.aload_n 0, 1) := by decide +kernel
theorem dX8_number_10 : decode cX8_number 10 = .ok (.invokevirtual 136, 3) := by decide +kernel
theorem dX8_number_13 : decode cX8_number 13 = .ok (.istore_n 3, 1) := by decide +kernel
theorem dX8_number_14 : decode cX8_number 14 = .ok (.aload_n 0, 1) := by decide +kernel
theorem dX8_number_15 : decode cX8_number 15 = .ok (.getfield 111, 3) := by decide +kernel
theorem dX8_number_18 : decode cX8_number 18 = .ok (.iconst 3, 1) := by decide +kernel
theorem dX8_number_19 : decode cX8_number 19 = .ok (.if_icmp .ne 20, 3) := by decide +kernel
theorem dX8_number_22 : decode cX8_number 22 = .ok (.iload_n 3, 1) := by decide +kernel
theorem dX8_number_23 : decode cX8_number 23 = .ok (.i2l, 1) := by decide +kernel
theorem dX8_number_24 : decode cX8_number 24 = .ok (.iload_n 1, 1) := by decide +kernel
theorem dX8_number_25 : decode cX8_number 25 = .ok (.i2l, 1) := by decide +kernel
theorem dX8_number_26 : decode cX8_number 26 = .ok (.iload_n 2, 1) := by decide +kernel
theorem dX8_number_27 : decode cX8_number 27 = .ok (.i2l, 1) := by decide +kernel
theorem dX8_number_28 : decode cX8_number 28 = .ok (.invokestatic 75, 3) := by decide +kernel
theorem dX8_number_31 : decode cX8_number 31 = .ok (.ifCond .ne 8, 3) := by decide +kernel
theorem dX8_number_34 : decode cX8_number 34 = .ok (.aload_n 0, 1) := by decide +kernel
theorem dX8_number_35 : decode cX8_number 35 = .ok (.iconst 2, 1) := by decide +kernel
theorem dX8_number_36 : decode cX8_number 36 = .ok (.invokevirtual 132, 3) := by decide +kernel
theorem dX8_number_39 : decode cX8_number 39 = .ok (.aload_n 0, 1) := by decide +kernel
theorem dX8_number_40 : decode cX8_number 40 = .ok (.aload_n 0, 1) := by decide +kernel
theorem dX8_number_41 : decode cX8_number 41 = .ok (.getfield 111, 3) := by decide +kernel
theorem dX8_number_44 : decode cX8_number 44 = .ok (.iconst 3, 1) := by decide +kernel
theorem dX8_number_45 : decode cX8_number 45 = .ok (.if_icmp .ne 7, 3) := by decide +kernel
theorem dX8_number_48 : decode cX8_number 48 = .ok (.iconst 1, 1) := by decide +kernel
theorem dX8_number_49 : decode cX8_number 49 = .ok (.goto 4, 3) := by decide +kernel
theorem dX8_number_52 : decode cX8_number 52 = .ok (.iconst 0, 1) := by decide +kernel
theorem dX8_number_53 : decode cX8_number 53 = .ok (.invokevirtual 140, 3) := by decide +kernel
theorem dX8_number_56 : decode cX8_number 56 = .ok (.iload_n 3, 1) := by decide +kernel
theorem dX8_number_57 : decode cX8_number 57 = .ok (.ireturn, 1) := by decide +kernel
theorem yv_X8_number : YV yX8_number cX8_number 4 (some .int) 2 := ⟨m1076, ms37, m9, m1077, ⟨by decide +kernel, by decide +kernel, by decide +kernel⟩, by decide⟩
noncomputable def f_X8_number_39 (q : Nat) (x3 : Int32) (h : AH) : Option (Int32 × AH) := if (h q 15) = 3 then (bd (f_X8_must q 1 h) (fun _ h_3 => some (x3, h_3))) else (bd (f_X8_must q 0 h) (fun _ h_1 => some (x3, h_1)))
set_option maxRecDepth 20000 in
set_option maxHeartbeats 4000000 in
theorem t_X8_number_39 {z : MC} {g : GC} {A : Nat → Prop} (F : Fx z cX8_number 4 RX8 (some .int) 4 g A) {q : Nat} (hq : (gL g)[q]? = some (.inl 8)) : ∀ (x3 : Int32) (h : AH), Snd z 4 g A (QF z g A mkI) 39 [(0, .ref (gad g q)), (3, .int x3)] [] h (f_X8_number_39 q x3 h) := by
  intro x3 h
  unfold f_X8_number_39
  refine s_aload_n F dX8_number_39 rfl 0 rfl ?_
  refine s_aload_n F dX8_number_40 rfl 0 rfl ?_
  refine s_geti F ciX8 15 hq (by decide) rfl rfl m908 dX8_number_41 ?_
  refine s_iconst F (v := 3) dX8_number_44 (by decide) ?_
  refine s_icmp_ne F 52 dX8_number_45 (by decide) (fun _ => ?_) (fun _ => ?_)
  · refine s_iconst F (v := 0) dX8_number_52 (by decide) ?_
    refine s_callVu (f := fun hh => f_X8_must q 0 hh) (As := [.int 0]) F yv_X8_must (ct_X8_must z.2.1 g hq 0) (by decide) m1066 hq rfl rfl rfl (Nat.le_of_ble_eq_true rfl) dX8_number_53 (fun _ h_1 e_v_2 => ?_)
    refine s_iload_n F dX8_number_56 rfl 1 rfl ?_
    exact s_iret F dX8_number_57
  · refine s_iconst F (v := 1) dX8_number_48 (by decide) ?_
    refine s_goto F 53 dX8_number_49 (by decide) ?_
    refine s_callVu (f := fun hh => f_X8_must q 1 hh) (As := [.int 1]) F yv_X8_must (ct_X8_must z.2.1 g hq 1) (by decide) m1066 hq rfl rfl rfl (Nat.le_of_ble_eq_true rfl) dX8_number_53 (fun _ h_3 e_v_4 => ?_)
    refine s_iload_n F dX8_number_56 rfl 1 rfl ?_
    exact s_iret F dX8_number_57
noncomputable def f_X8_number (q : Nat) (x1 : Int32) (x2 : Int32) (h : AH) : Option (Int32 × AH) := if (h q 18) ≤ 0 then (bd (f_X8_figures q h) (fun v_2 h_1 => if (h_1 q 15) = 3 then (bd (f_X8_in ((v_2 : Int32).toInt64) ((x1 : Int32).toInt64) ((x2 : Int32).toInt64) h_1) (fun v_4 h_3 => if v_4 = 0 then (bd (f_X8_bad q 2 h_3) (fun _ h_5 => f_X8_number_39 q v_2 h_5)) else (f_X8_number_39 q v_2 h_3))) else (f_X8_number_39 q v_2 h_1))) else (some (0, h))
set_option maxRecDepth 20000 in
set_option maxHeartbeats 4000000 in
theorem ct_X8_number (l : Launch) (g : GC) {q : Nat} (hq : (gL g)[q]? = some (.inl 8)) (x1 : Int32) (x2 : Int32) : Ct l yX8_number cX8_number 4 (some .int) 4 [.ref (gad g q), .int x1, .int x2] g mkI (fun h => f_X8_number q x1 x2 h) := by
  refine Ct.of (by decide +kernel) (Nat.le_of_ble_eq_true rfl) (fun z A h _ F => ?_)
  show Snd z 4 g A (QF z g A mkI) 0 [(0, .ref (gad g q)), (1, .int x1), (2, .int x2)] [] h (f_X8_number q x1 x2 h)
  unfold f_X8_number
  refine s_aload_n F dX8_number_0 rfl 0 rfl ?_
  refine s_geti F ciX8 18 hq (by decide) rfl rfl m911 dX8_number_1 ?_
  refine s_if_le F 9 dX8_number_4 (by decide) (fun _ => ?_) (fun _ => ?_)
  · refine s_aload_n F dX8_number_9 rfl 0 rfl ?_
    refine s_callVi (f := fun hh => f_X8_figures q hh) (As := []) F yv_X8_figures (ct_X8_figures z.2.1 g hq) (by decide) m1078 hq rfl rfl rfl (Nat.le_of_ble_eq_true rfl) dX8_number_10 (fun v_2 h_1 e_v_2 => ?_)
    refine s_istore_n F (lv' := [(3, .int v_2), (0, .ref (gad g q)), (1, .int x1), (2, .int x2)]) dX8_number_13 rfl (by decide) rfl ?_
    refine s_aload_n F dX8_number_14 rfl 1 rfl ?_
    refine s_geti F ciX8 15 hq (by decide) rfl rfl m908 dX8_number_15 ?_
    refine s_iconst F (v := 3) dX8_number_18 (by decide) ?_
    refine s_icmp_ne F 39 dX8_number_19 (by decide) (fun _ => ?_) (fun _ => ?_)
    · exact s_sub [1, 0] rfl (t_X8_number_39 F hq v_2 h_1)
    · refine s_iload_n F dX8_number_22 rfl 0 rfl ?_
      refine s_i2l F dX8_number_23 ?_
      refine s_iload_n F dX8_number_24 rfl 2 rfl ?_
      refine s_i2l F dX8_number_25 ?_
      refine s_iload_n F dX8_number_26 rfl 3 rfl ?_
      refine s_i2l F dX8_number_27 ?_
      refine s_callSi (f := fun hh => f_X8_in ((v_2 : Int32).toInt64) ((x1 : Int32).toInt64) ((x2 : Int32).toInt64) hh) (As := [.long ((v_2 : Int32).toInt64), .long ((x1 : Int32).toInt64), .long ((x2 : Int32).toInt64)]) F ys_X8_in (ct_X8_in z.2.1 g ((v_2 : Int32).toInt64) ((x1 : Int32).toInt64) ((x2 : Int32).toInt64)) (by decide) m1005 rfl rfl (Nat.le_of_ble_eq_true rfl) dX8_number_28 (fun v_4 h_3 e_v_4 => ?_)
      refine s_if_ne F 39 dX8_number_31 (by decide) (fun _ => ?_) (fun _ => ?_)
      · exact s_sub [1, 0] rfl (t_X8_number_39 F hq v_2 h_3)
      · refine s_aload_n F dX8_number_34 rfl 1 rfl ?_
        refine s_iconst F (v := 2) dX8_number_35 (by decide) ?_
        refine s_callVu (f := fun hh => f_X8_bad q 2 hh) (As := [.int 2]) F yv_X8_bad (ct_X8_bad z.2.1 g hq 2) (by decide) m1070 hq rfl rfl rfl (Nat.le_of_ble_eq_true rfl) dX8_number_36 (fun _ h_5 e_v_6 => ?_)
        exact s_sub [1, 0] rfl (t_X8_number_39 F hq v_2 h_5)
  · refine s_iconst F (v := 0) dX8_number_7 (by decide) ?_
    exact s_iret F dX8_number_8
theorem dX8_readArch_0 : decode cX8_readArch 0 = .ok (.aload_n 0, 1) := by decide +kernel
theorem dX8_readArch_1 : decode cX8_readArch 1 = .ok (.iconst 0, 1) := by decide +kernel
theorem dX8_readArch_2 : decode cX8_readArch 2 = .ok (.bipush 6, 2) := by decide +kernel
theorem dX8_readArch_4 : decode cX8_readArch 4 = .ok (.invokevirtual 167, 3) := by decide +kernel
theorem dX8_readArch_7 : decode cX8_readArch 7 = .ok (.aload_n 0, 1) := by decide +kernel
theorem dX8_readArch_8 : decode cX8_readArch 8 = .ok (.iconst 0, 1) := by decide +kernel
theorem dX8_readArch_9 : decode cX8_readArch 9 = .ok (.iconst 4, 1) := by decide +kernel
theorem dX8_readArch_10 : decode cX8_readArch 10 = .ok (.invokevirtual 160, 3) := by decide +kernel
theorem dX8_readArch_13 : decode cX8_readArch 13 = .ok (.istore_n 1, 1) := by decide +kernel
theorem dX8_readArch_14 : decode cX8_readArch 14 = .ok (.aload_n 0, 1) := by decide +kernel
theorem dX8_readArch_15 : decode cX8_readArch 15 = .ok (.iconst 0, 1) := by decide +kernel
theorem dX8_readArch_16 : decode cX8_readArch 16 = .ok (.iconst 4, 1) := by decide +kernel
theorem dX8_readArch_17 : decode cX8_readArch 17 = .ok (.invokevirtual 160, 3) := by decide +kernel
theorem dX8_readArch_20 : decode cX8_readArch 20 = .ok (.istore_n 2, 1) := by decide +kernel
theorem dX8_readArch_21 : decode cX8_readArch 21 = .ok (.aload_n 0, 1) := by decide +kernel
theorem dX8_readArch_22 : decode cX8_readArch 22 = .ok (.iconst 1, 1) := by decide +kernel
theorem dX8_readArch_23 : decode cX8_readArch 23 = .ok (.bipush 30, 2) := by decide +kernel
theorem dX8_readArch_25 : decode cX8_readArch 25 = .ok (.invokevirtual 160, 3) := by decide +kernel
theorem dX8_readArch_28 : decode cX8_readArch 28 = .ok (.istore_n 3, 1) := by decide +kernel
theorem dX8_readArch_29 : decode cX8_readArch 29 = .ok (.aload_n 0, 1) := by decide +kernel
theorem dX8_readArch_30 : decode cX8_readArch 30 = .ok (.iconst 0, 1) := by decide +kernel
theorem dX8_readArch_31 : decode cX8_readArch 31 = .ok (.bipush 9, 2) := by decide +kernel
theorem dX8_readArch_33 : decode cX8_readArch 33 = .ok (.invokevirtual 160, 3) := by decide +kernel
theorem dX8_readArch_36 : decode cX8_readArch 36 = .ok (.istore 4, 2) := by decide +kernel
theorem dX8_readArch_38 : decode cX8_readArch 38 = .ok (.aload_n 0, 1) := by decide +kernel
theorem dX8_readArch_39 : decode cX8_readArch 39 = .ok (.invokevirtual 164, 3) := by decide +kernel
theorem dX8_readArch_42 : decode cX8_readArch 42 = .ok (.aload_n 0, 1) := by decide +kernel
theorem dX8_readArch_43 : decode cX8_readArch 43 = .ok (.getfield 123, 3) := by decide +kernel
theorem dX8_readArch_46 : decode cX8_readArch 46 = .ok (.ifCond .ne 66, 3) := by decide +kernel
theorem dX8_readArch_49 : decode cX8_readArch 49 = .ok (.bipush 16, 2) := by decide +kernel
theorem dX8_readArch_51 : decode cX8_readArch 51 = .ok (.bipush 7, 2) := by decide +kernel
theorem dX8_readArch_53 : decode cX8_readArch 53 = .ok (.aload_n 0, 1) := by decide +kernel
theorem dX8_readArch_54 : decode cX8_readArch 54 = .ok (.getfield 22, 3) := by decide +kernel
theorem dX8_readArch_57 : decode cX8_readArch 57 = .ok (.iconst 0, 1) := by decide +kernel
theorem dX8_readArch_58 : decode cX8_readArch 58 = .ok (.iaload, 1) := by decide +kernel
theorem dX8_readArch_59 : decode cX8_readArch 59 = .ok (.imul, 1) := by decide +kernel
theorem dX8_readArch_60 : decode cX8_readArch 60 = .ok (.iadd, 1) := by decide +kernel
theorem dX8_readArch_61 : decode cX8_readArch 61 = .ok (.istore 5, 2) := by decide +kernel
theorem dX8_readArch_63 : decode cX8_readArch 63 = .ok (.aload_n 0, 1) := by decide +kernel
theorem dX8_readArch_64 : decode cX8_readArch 64 = .ok (.getfield 22, 3) := by decide +kernel
theorem dX8_readArch_67 : decode cX8_readArch 67 = .ok (.iload 5, 2) := by decide +kernel
theorem dX8_readArch_69 : decode cX8_readArch 69 = .ok (.iload_n 1, 1) := by decide +kernel
theorem dX8_readArch_70 : decode cX8_readArch 70 = .ok (.iastore, 1) := by decide +kernel
theorem dX8_readArch_71 : decode cX8_readArch 71 = .ok (.aload_n 0, 1) := by decide +kernel
theorem dX8_readArch_72 : decode cX8_readArch 72 = .ok (.getfield 22, 3) := by decide +kernel
theorem dX8_readArch_75 : decode cX8_readArch 75 = .ok (.iload 5, 2) := by decide +kernel
theorem dX8_readArch_77 : decode cX8_readArch 77 = .ok (.iconst 1, 1) := by decide +kernel
theorem dX8_readArch_78 : decode cX8_readArch 78 = .ok (.iadd, 1) := by decide +kernel
theorem dX8_readArch_79 : decode cX8_readArch 79 = .ok (.iload_n 2, 1) := by decide +kernel
theorem dX8_readArch_80 : decode cX8_readArch 80 = .ok (.iastore, 1) := by decide +kernel
theorem dX8_readArch_81 : decode cX8_readArch 81 = .ok (.aload_n 0, 1) := by decide +kernel
theorem dX8_readArch_82 : decode cX8_readArch 82 = .ok (.getfield 22, 3) := by decide +kernel
theorem dX8_readArch_85 : decode cX8_readArch 85 = .ok (.iload 5, 2) := by decide +kernel
theorem dX8_readArch_87 : decode cX8_readArch 87 = .ok (.iconst 2, 1) := by decide +kernel
theorem dX8_readArch_88 : decode cX8_readArch 88 = .ok (.iadd, 1) := by decide +kernel
theorem dX8_readArch_89 : decode cX8_readArch 89 = .ok (.iload_n 3, 1) := by decide +kernel
theorem dX8_readArch_90 : decode cX8_readArch 90 = .ok (.iastore, 1) := by decide +kernel
theorem dX8_readArch_91 : decode cX8_readArch 91 = .ok (.aload_n 0, 1) := by decide +kernel
theorem dX8_readArch_92 : decode cX8_readArch 92 = .ok (.getfield 22, 3) := by decide +kernel
theorem dX8_readArch_95 : decode cX8_readArch 95 = .ok (.iload 5, 2) := by decide +kernel
theorem dX8_readArch_97 : decode cX8_readArch 97 = .ok (.iconst 3, 1) := by decide +kernel
theorem dX8_readArch_98 : decode cX8_readArch 98 = .ok (.iadd, 1) := by decide +kernel
theorem dX8_readArch_99 : decode cX8_readArch 99 = .ok (.iload 4, 2) := by decide +kernel
theorem dX8_readArch_101 : decode cX8_readArch 101 = .ok (.iastore, 1) := by decide +kernel
theorem dX8_readArch_102 : decode cX8_readArch 102 = .ok (.aload_n 0, 1) := by decide +kernel
theorem dX8_readArch_103 : decode cX8_readArch 103 = .ok (.getfield 22, 3) := by decide +kernel
theorem dX8_readArch_106 : decode cX8_readArch 106 = .ok (.iconst 0, 1) := by decide +kernel
theorem dX8_readArch_107 : decode cX8_readArch 107 = .ok (.dup2, 1) := by decide +kernel
theorem dX8_readArch_108 : decode cX8_readArch 108 = .ok (.iaload, 1) := by decide +kernel
theorem dX8_readArch_109 : decode cX8_readArch 109 = .ok (.iconst 1, 1) := by decide +kernel
theorem dX8_readArch_110 : decode cX8_readArch 110 = .ok (.iadd, 1) := by decide +kernel
theorem dX8_readArch_111 : decode cX8_readArch 111 = .ok (.iastore, 1) := by decide +kernel
theorem dX8_readArch_112 : decode cX8_readArch 112 = .ok (.return_, 1) := by decide +kernel
theorem yv_X8_readArch : YV yX8_readArch cX8_readArch 6 none 0 := ⟨m1089, ms40, m9, m1090, ⟨by decide +kernel, by decide +kernel, by decide +kernel⟩, by decide⟩
noncomputable def f_X8_readArch (q : Nat) (h : AH) : Option (Unit × AH) := bd (f_X8_begins q 0 6 h) (fun _ h_1 => bd (f_X8_number q 0 4 h_1) (fun v_4 h_3 => bd (f_X8_number q 0 4 h_3) (fun v_6 h_5 => bd (f_X8_number q 1 30 h_5) (fun v_8 h_7 => bd (f_X8_number q 0 9 h_7) (fun v_10 h_9 => bd (f_X8_mustEnd q h_9) (fun _ h_11 => if (h_11 q 18) = 0 then (ck 0 100 (lt ((16 + (7 * (h_11 (q + 5) (0 : Int32).toNatClampNeg)))) (fun v_14 => ck v_14 100 (lt (hset h_11 (q + 5) (v_14 : Int32).toNatClampNeg v_4) (fun h_16 => lt ((v_14 + 1)) (fun v_18 => ck v_18 100 (lt (hset h_16 (q + 5) (v_18 : Int32).toNatClampNeg v_6) (fun h_19 => lt ((v_14 + 2)) (fun v_21 => ck v_21 100 (lt (hset h_19 (q + 5) (v_21 : Int32).toNatClampNeg v_8) (fun h_22 => lt ((v_14 + 3)) (fun v_24 => ck v_24 100 (lt (hset h_22 (q + 5) (v_24 : Int32).toNatClampNeg v_10) (fun h_25 => ck 0 100 (ck 0 100 (lt (hset h_25 (q + 5) (0 : Int32).toNatClampNeg ((h_25 (q + 5) (0 : Int32).toNatClampNeg) + 1)) (fun h_27 => some ((), h_27)))))))))))))))))) else (some ((), h_11))))))))
set_option maxRecDepth 20000 in
set_option maxHeartbeats 4000000 in
theorem ct_X8_readArch (l : Launch) (g : GC) {q : Nat} (hq : (gL g)[q]? = some (.inl 8)) : Ct l yX8_readArch cX8_readArch 6 none 5 [.ref (gad g q)] g mkU (fun h => f_X8_readArch q h) := by
  refine Ct.of (by decide +kernel) (Nat.le_of_ble_eq_true rfl) (fun z A h _ F => ?_)
  show Snd z 6 g A (QF z g A mkU) 0 [(0, .ref (gad g q))] [] h (f_X8_readArch q h)
  unfold f_X8_readArch
  refine s_aload_n F dX8_readArch_0 rfl 0 rfl ?_
  refine s_iconst F (v := 0) dX8_readArch_1 (by decide) ?_
  refine s_bipush F (v := 6) dX8_readArch_2 (by decide) ?_
  refine s_callVu (f := fun hh => f_X8_begins q 0 6 hh) (As := [.int 0, .int 6]) F yv_X8_begins (ct_X8_begins z.2.1 g hq 0 6) (by decide) m1091 hq rfl rfl rfl (Nat.le_of_ble_eq_true rfl) dX8_readArch_4 (fun _ h_1 e_v_2 => ?_)
  refine s_aload_n F dX8_readArch_7 rfl 0 rfl ?_
  refine s_iconst F (v := 0) dX8_readArch_8 (by decide) ?_
  refine s_iconst F (v := 4) dX8_readArch_9 (by decide) ?_
  refine s_callVi (f := fun hh => f_X8_number q 0 4 hh) (As := [.int 0, .int 4]) F yv_X8_number (ct_X8_number z.2.1 g hq 0 4) (by decide) m1074 hq rfl rfl rfl (Nat.le_of_ble_eq_true rfl) dX8_readArch_10 (fun v_4 h_3 e_v_4 => ?_)
  refine s_istore_n F (lv' := [(1, .int v_4), (0, .ref (gad g q))]) dX8_readArch_13 rfl (by decide) rfl ?_
  refine s_aload_n F dX8_readArch_14 rfl 1 rfl ?_
  refine s_iconst F (v := 0) dX8_readArch_15 (by decide) ?_
  refine s_iconst F (v := 4) dX8_readArch_16 (by decide) ?_
  refine s_callVi (f := fun hh => f_X8_number q 0 4 hh) (As := [.int 0, .int 4]) F yv_X8_number (ct_X8_number z.2.1 g hq 0 4) (by decide) m1074 hq rfl rfl rfl (Nat.le_of_ble_eq_true rfl) dX8_readArch_17 (fun v_6 h_5 e_v_6 => ?_)
  refine s_istore_n F (lv' := [(2, .int v_6), (1, .int v_4), (0, .ref (gad g q))]) dX8_readArch_20 rfl (by decide) rfl ?_
  refine s_aload_n F dX8_readArch_21 rfl 2 rfl ?_
  refine s_iconst F (v := 1) dX8_readArch_22 (by decide) ?_
  refine s_bipush F (v := 30) dX8_readArch_23 (by decide) ?_
  refine s_callVi (f := fun hh => f_X8_number q 1 30 hh) (As := [.int 1, .int 30]) F yv_X8_number (ct_X8_number z.2.1 g hq 1 30) (by decide) m1074 hq rfl rfl rfl (Nat.le_of_ble_eq_true rfl) dX8_readArch_25 (fun v_8 h_7 e_v_8 => ?_)
  refine s_istore_n F (lv' := [(3, .int v_8), (2, .int v_6), (1, .int v_4), (0, .ref (gad g q))]) dX8_readArch_28 rfl (by decide) rfl ?_
  refine s_aload_n F dX8_readArch_29 rfl 3 rfl ?_
  refine s_iconst F (v := 0) dX8_readArch_30 (by decide) ?_
  refine s_bipush F (v := 9) dX8_readArch_31 (by decide) ?_
  refine s_callVi (f := fun hh => f_X8_number q 0 9 hh) (As := [.int 0, .int 9]) F yv_X8_number (ct_X8_number z.2.1 g hq 0 9) (by decide) m1074 hq rfl rfl rfl (Nat.le_of_ble_eq_true rfl) dX8_readArch_33 (fun v_10 h_9 e_v_10 => ?_)
  refine s_istore F (lv' := [(4, .int v_10), (3, .int v_8), (2, .int v_6), (1, .int v_4), (0, .ref (gad g q))]) dX8_readArch_36 (by decide) rfl ?_
  refine s_aload_n F dX8_readArch_38 rfl 4 rfl ?_
  refine s_callVu (f := fun hh => f_X8_mustEnd q hh) (As := []) F yv_X8_mustEnd (ct_X8_mustEnd z.2.1 g hq) (by decide) m1082 hq rfl rfl rfl (Nat.le_of_ble_eq_true rfl) dX8_readArch_39 (fun _ h_11 e_v_12 => ?_)
  refine s_aload_n F dX8_readArch_42 rfl 4 rfl ?_
  refine s_geti F ciX8 18 hq (by decide) rfl rfl m911 dX8_readArch_43 ?_
  refine s_if_ne F 112 dX8_readArch_46 (by decide) (fun _ => ?_) (fun _ => ?_)
  · exact s_vret F dX8_readArch_112
  · refine s_bipush F (v := 16) dX8_readArch_49 (by decide) ?_
    refine s_bipush F (v := 7) dX8_readArch_51 (by decide) ?_
    refine s_aload_n F dX8_readArch_53 rfl 4 rfl ?_
    have hw_13 := wf_ref F.2.2.2.2.2.2.1 hq 6 5 (.inr (0, 100)) rfl
    refine s_getr F ciX8 6 5 (.inr (0, 100)) hq (by decide) rfl rfl m899 dX8_readArch_54 ?_
    refine s_iconst F (v := 0) dX8_readArch_57 (by decide) ?_
    refine s_iald F hw_13 dX8_readArch_58 ?_
    refine s_imul F dX8_readArch_59 ?_
    refine s_iadd F dX8_readArch_60 ?_
    refine s_leti (fun v_14 => ?_)
    refine s_istore F (lv' := [(5, .int v_14), (4, .int v_10), (3, .int v_8), (2, .int v_6), (1, .int v_4), (0, .ref (gad g q))]) dX8_readArch_61 (by decide) rfl ?_
    refine s_aload_n F dX8_readArch_63 rfl 5 rfl ?_
    have hw_15 := wf_ref F.2.2.2.2.2.2.1 hq 6 5 (.inr (0, 100)) rfl
    refine s_getr F ciX8 6 5 (.inr (0, 100)) hq (by decide) rfl rfl m899 dX8_readArch_64 ?_
    refine s_iload F dX8_readArch_67 0 rfl ?_
    refine s_iload_n F dX8_readArch_69 rfl 4 rfl ?_
    refine s_iast F hw_15 dX8_readArch_70 ?_
    refine s_letH (fun h_16 => ?_)
    refine s_aload_n F dX8_readArch_71 rfl 5 rfl ?_
    have hw_17 := wf_ref F.2.2.2.2.2.2.1 hq 6 5 (.inr (0, 100)) rfl
    refine s_getr F ciX8 6 5 (.inr (0, 100)) hq (by decide) rfl rfl m899 dX8_readArch_72 ?_
    refine s_iload F dX8_readArch_75 0 rfl ?_
    refine s_iconst F (v := 1) dX8_readArch_77 (by decide) ?_
    refine s_iadd F dX8_readArch_78 ?_
    refine s_iload_n F dX8_readArch_79 rfl 3 rfl ?_
    refine s_leti2 (fun v_18 => ?_)
    refine s_iast F hw_17 dX8_readArch_80 ?_
    refine s_letH (fun h_19 => ?_)
    refine s_aload_n F dX8_readArch_81 rfl 5 rfl ?_
    have hw_20 := wf_ref F.2.2.2.2.2.2.1 hq 6 5 (.inr (0, 100)) rfl
    refine s_getr F ciX8 6 5 (.inr (0, 100)) hq (by decide) rfl rfl m899 dX8_readArch_82 ?_
    refine s_iload F dX8_readArch_85 0 rfl ?_
    refine s_iconst F (v := 2) dX8_readArch_87 (by decide) ?_
    refine s_iadd F dX8_readArch_88 ?_
    refine s_iload_n F dX8_readArch_89 rfl 2 rfl ?_
    refine s_leti2 (fun v_21 => ?_)
    refine s_iast F hw_20 dX8_readArch_90 ?_
    refine s_letH (fun h_22 => ?_)
    refine s_aload_n F dX8_readArch_91 rfl 5 rfl ?_
    have hw_23 := wf_ref F.2.2.2.2.2.2.1 hq 6 5 (.inr (0, 100)) rfl
    refine s_getr F ciX8 6 5 (.inr (0, 100)) hq (by decide) rfl rfl m899 dX8_readArch_92 ?_
    refine s_iload F dX8_readArch_95 0 rfl ?_
    refine s_iconst F (v := 3) dX8_readArch_97 (by decide) ?_
    refine s_iadd F dX8_readArch_98 ?_
    refine s_iload F dX8_readArch_99 1 rfl ?_
    refine s_leti2 (fun v_24 => ?_)
    refine s_iast F hw_23 dX8_readArch_101 ?_
    refine s_letH (fun h_25 => ?_)
    refine s_aload_n F dX8_readArch_102 rfl 5 rfl ?_
    have hw_26 := wf_ref F.2.2.2.2.2.2.1 hq 6 5 (.inr (0, 100)) rfl
    refine s_getr F ciX8 6 5 (.inr (0, 100)) hq (by decide) rfl rfl m899 dX8_readArch_103 ?_
    refine s_iconst F (v := 0) dX8_readArch_106 (by decide) ?_
    refine s_dup2 F dX8_readArch_107 rfl rfl ?_
    refine s_iald F hw_26 dX8_readArch_108 ?_
    refine s_iconst F (v := 1) dX8_readArch_109 (by decide) ?_
    refine s_iadd F dX8_readArch_110 ?_
    refine s_iast F hw_26 dX8_readArch_111 ?_
    refine s_letH (fun h_27 => ?_)
    exact s_vret F dX8_readArch_112
theorem dX8_kindBy_0 : decode cX8_kindBy 0 = .ok (.lload_n 0, 1) := by decide +kernel
theorem dX8_kindBy_1 : decode cX8_kindBy 1 = .ok (.ldc2_w 144, 3) := by decide +kernel
theorem dX8_kindBy_4 : decode cX8_kindBy 4 = .ok (.lcmp, 1) := by decide +kernel
theorem dX8_kindBy_5 : decode cX8_kindBy 5 = .ok (.ifCond .ne 7, 3) := by decide +kernel
theorem dX8_kindBy_8 : decode cX8_kindBy 8 = .ok (.iconst 1, 1) := by decide +kernel
theorem dX8_kindBy_9 : decode cX8_kindBy 9 = .ok (.goto 53, 3) := by decide +kernel
theorem dX8_kindBy_12 : decode cX8_kindBy 12 = .ok (.lload_n 0, 1) := by decide +kernel
theorem dX8_kindBy_13 : decode cX8_kindBy 13 = .ok (.ldc2_w 146, 3) := by decide +kernel
theorem dX8_kindBy_16 : decode cX8_kindBy 16 = .ok (.lcmp, 1) := by decide +kernel
theorem dX8_kindBy_17 : decode cX8_kindBy 17 = .ok (.ifCond .ne 7, 3) := by decide +kernel
theorem dX8_kindBy_20 : decode cX8_kindBy 20 = .ok (.iconst 2, 1) := by decide +kernel
theorem dX8_kindBy_21 : decode cX8_kindBy 21 = .ok (.goto 41, 3) := by decide +kernel
theorem dX8_kindBy_24 : decode cX8_kindBy 24 = .ok (.lload_n 0, 1) := by decide +kernel
theorem dX8_kindBy_25 : decode cX8_kindBy 25 = .ok (.ldc2_w 148, 3) := by decide +kernel
theorem dX8_kindBy_28 : decode cX8_kindBy 28 = .ok (.lcmp, 1) := by decide +kernel
theorem dX8_kindBy_29 : decode cX8_kindBy 29 = .ok (.ifCond .ne 7, 3) := by decide +kernel
theorem dX8_kindBy_32 : decode cX8_kindBy 32 = .ok (.iconst 3, 1) := by decide +kernel
theorem dX8_kindBy_33 : decode cX8_kindBy 33 = .ok (.goto 29, 3) := by decide +kernel
theorem dX8_kindBy_36 : decode cX8_kindBy 36 = .ok (.lload_n 0, 1) := by decide +kernel
theorem dX8_kindBy_37 : decode cX8_kindBy 37 = .ok (.ldc2_w 150, 3) := by decide +kernel
theorem dX8_kindBy_40 : decode cX8_kindBy 40 = .ok (.lcmp, 1) := by decide +kernel
theorem dX8_kindBy_41 : decode cX8_kindBy 41 = .ok (.ifCond .ne 7, 3) := by decide +kernel
theorem dX8_kindBy_44 : decode cX8_kindBy 44 = .ok (.iconst 4, 1) := by decide +kernel
theorem dX8_kindBy_45 : decode cX8_kindBy 45 = .ok (.goto 17, 3) := by decide +kernel
theorem dX8_kindBy_48 : decode cX8_kindBy 48 = .ok (.lload_n 0, 1) := by decide +kernel
theorem dX8_kindBy_49 : decode cX8_kindBy 49 = .ok (.ldc2_w 152, 3) := by decide +kernel
theorem dX8_kindBy_52 : decode cX8_kindBy 52 = .ok (.lcmp, 1) := by decide +kernel
theorem dX8_kindBy_53 : decode cX8_kindBy 53 = .ok (.ifCond .ne 7, 3) := by decide +kernel
theorem dX8_kindBy_56 : decode cX8_kindBy 56 = .ok (.iconst 5, 1) := by decide +kernel
theorem dX8_kindBy_57 : decode cX8_kindBy 57 = .ok (.goto 5, 3) := by decide +kernel
theorem dX8_kindBy_60 : decode cX8_kindBy 60 = .ok (.ldc 101, 2) := by decide +kernel
theorem dX8_kindBy_62 : decode cX8_kindBy 62 = .ok (.ireturn, 1) := by decide +kernel
theorem ys_X8_kindBy : YS yX8_kindBy cX8_kindBy 2 (some .int) 1 := ⟨m1101, m9, m1102, ⟨by decide +kernel, by decide +kernel, by decide +kernel⟩, by decide⟩
noncomputable def f_X8_kindBy (x0 : Int64) (h : AH) : Option (Int32 × AH) := if (lg_cmp x0 422541682533) = 0 then (some (1, h)) else (if (lg_cmp x0 6516583) = 0 then (some (2, h)) else (if (lg_cmp x0 1918985844) = 0 then (some (3, h)) else (if (lg_cmp x0 1667330676) = 0 then (some (4, h)) else (if (lg_cmp x0 2002872686) = 0 then (some (5, h)) else (some ((-1000000), h))))))
set_option maxRecDepth 20000 in
set_option maxHeartbeats 4000000 in
theorem ct_X8_kindBy (l : Launch) (g : GC) (x0 : Int64) : Ct l yX8_kindBy cX8_kindBy 2 (some .int) 1 [.long x0] g mkI (fun h => f_X8_kindBy x0 h) := by
  refine Ct.of (by decide +kernel) (Nat.le_of_ble_eq_true rfl) (fun z A h _ F => ?_)
  show Snd z 2 g A (QF z g A mkI) 0 [(0, .long x0)] [] h (f_X8_kindBy x0 h)
  unfold f_X8_kindBy
  refine s_lload_n F dX8_kindBy_0 rfl 0 rfl ?_
  refine s_ldc2 F (v := 422541682533) dX8_kindBy_1 m1103 ?_
  refine s_lcmp F dX8_kindBy_4 ?_
  refine s_if_ne F 12 dX8_kindBy_5 (by decide) (fun _ => ?_) (fun _ => ?_)
  · refine s_lload_n F dX8_kindBy_12 rfl 0 rfl ?_
    refine s_ldc2 F (v := 6516583) dX8_kindBy_13 m1104 ?_
    refine s_lcmp F dX8_kindBy_16 ?_
    refine s_if_ne F 24 dX8_kindBy_17 (by decide) (fun _ => ?_) (fun _ => ?_)
    · refine s_lload_n F dX8_kindBy_24 rfl 0 rfl ?_
      refine s_ldc2 F (v := 1918985844) dX8_kindBy_25 m1105 ?_
      refine s_lcmp F dX8_kindBy_28 ?_
      refine s_if_ne F 36 dX8_kindBy_29 (by decide) (fun _ => ?_) (fun _ => ?_)
      · refine s_lload_n F dX8_kindBy_36 rfl 0 rfl ?_
        refine s_ldc2 F (v := 1667330676) dX8_kindBy_37 m1106 ?_
        refine s_lcmp F dX8_kindBy_40 ?_
        refine s_if_ne F 48 dX8_kindBy_41 (by decide) (fun _ => ?_) (fun _ => ?_)
        · refine s_lload_n F dX8_kindBy_48 rfl 0 rfl ?_
          refine s_ldc2 F (v := 2002872686) dX8_kindBy_49 m1107 ?_
          refine s_lcmp F dX8_kindBy_52 ?_
          refine s_if_ne F 60 dX8_kindBy_53 (by decide) (fun _ => ?_) (fun _ => ?_)
          · refine s_ldc F (v := (-1000000)) dX8_kindBy_60 m1050 ?_
            exact s_iret F dX8_kindBy_62
          · refine s_iconst F (v := 5) dX8_kindBy_56 (by decide) ?_
            refine s_goto F 62 dX8_kindBy_57 (by decide) ?_
            exact s_iret F dX8_kindBy_62
        · refine s_iconst F (v := 4) dX8_kindBy_44 (by decide) ?_
          refine s_goto F 62 dX8_kindBy_45 (by decide) ?_
          exact s_iret F dX8_kindBy_62
      · refine s_iconst F (v := 3) dX8_kindBy_32 (by decide) ?_
        refine s_goto F 62 dX8_kindBy_33 (by decide) ?_
        exact s_iret F dX8_kindBy_62
    · refine s_iconst F (v := 2) dX8_kindBy_20 (by decide) ?_
      refine s_goto F 62 dX8_kindBy_21 (by decide) ?_
      exact s_iret F dX8_kindBy_62
  · refine s_iconst F (v := 1) dX8_kindBy_8 (by decide) ?_
    refine s_goto F 62 dX8_kindBy_9 (by decide) ?_
    exact s_iret F dX8_kindBy_62
theorem dX8_readBoat_0 : decode cX8_readBoat 0 = .ok (.aload_n 0, 1) := by decide +kernel
theorem dX8_readBoat_1 : decode cX8_readBoat 1 = .ok (.iconst 1, 1) := by decide +kernel
theorem dX8_readBoat_2 : decode cX8_readBoat 2 = .ok (.bipush 6, 2) := by decide +kernel
theorem dX8_readBoat_4 : decode cX8_readBoat 4 = .ok (.invokevirtual 167, 3) := by decide +kernel
theorem dX8_readBoat_7 : decode cX8_readBoat 7 = .ok (.aload_n 0, 1) := by decide +kernel
theorem dX8_readBoat_8 : decode cX8_readBoat 8 = .ok (.invokevirtual 154, 3) := by decide +kernel
theorem dX8_readBoat_11 : decode cX8_readBoat 11 = .ok (.invokestatic 171, 3) := by decide +kernel
theorem dX8_readBoat_14 : decode cX8_readBoat 14 = .ok (.istore_n 1, 1) := by decide +kernel
theorem dX8_readBoat_15 : decode cX8_readBoat 15 = .ok (.aload_n 0, 1) := by decide +kernel
theorem dX8_readBoat_16 : decode cX8_readBoat 16 = .ok (.getfield 123, 3) := by decide +kernel
theorem dX8_readBoat_19 : decode cX8_readBoat 19 = .ok (.ifCond .ne 18, 3) := by decide +kernel
theorem dX8_readBoat_22 : decode cX8_readBoat 22 = .ok (.aload_n 0, 1) := by decide +kernel
theorem dX8_readBoat_23 : decode cX8_readBoat 23 = .ok (.iload_n 1, 1) := by decide +kernel
theorem dX8_readBoat_24 : decode cX8_readBoat 24 = .ok (.ldc 101, 2) := by decide +kernel
theorem dX8_readBoat_26 : decode cX8_readBoat 26 = .ok (.if_icmp .eq 7, 3) := by decide +kernel
theorem dX8_readBoat_29 : decode cX8_readBoat 29 = .ok (.iconst 1, 1) := by decide +kernel
theorem dX8_readBoat_30 : decode cX8_readBoat 30 = .ok (.goto 4, 3) := by decide +kernel
theorem dX8_readBoat_33 : decode cX8_readBoat 33 = .ok (.iconst 0, 1) := by decide +kernel
theorem dX8_readBoat_34 : decode cX8_readBoat 34 = .ok (.invokevirtual 140, 3) := by decide +kernel
theorem dX8_readBoat_37 : decode cX8_readBoat 37 = .ok (.bipush 58, 2) := by decide +kernel
theorem dX8_readBoat_39 : decode cX8_readBoat 39 = .ok (.aload_n 0, 1) := by decide +kernel
theorem dX8_readBoat_40 : decode cX8_readBoat 40 = .ok (.getfield 123, 3) := by decide +kernel
theorem dX8_readBoat_43 : decode cX8_readBoat 43 = .ok (.ifCond .ne 15, 3) := by decide +kernel
theorem dX8_readBoat_46 : decode cX8_readBoat 46 = .ok (.bipush 7, 2) := by decide +kernel
theorem dX8_readBoat_48 : decode cX8_readBoat 48 = .ok (.aload_n 0, 1) := by decide +kernel
theorem dX8_readBoat_49 : decode cX8_readBoat 49 = .ok (.getfield 22, 3) := by decide +kernel
theorem dX8_readBoat_52 : decode cX8_readBoat 52 = .ok (.iconst 1, 1) := by decide +kernel
theorem dX8_readBoat_53 : decode cX8_readBoat 53 = .ok (.iaload, 1) := by decide +kernel
theorem dX8_readBoat_54 : decode cX8_readBoat 54 = .ok (.imul, 1) := by decide +kernel
theorem dX8_readBoat_55 : decode cX8_readBoat 55 = .ok (.goto 4, 3) := by decide +kernel
theorem dX8_readBoat_58 : decode cX8_readBoat 58 = .ok (.iconst 0, 1) := by decide +kernel
theorem dX8_readBoat_59 : decode cX8_readBoat 59 = .ok (.iadd, 1) := by decide +kernel
theorem dX8_readBoat_60 : decode cX8_readBoat 60 = .ok (.istore_n 2, 1) := by decide +kernel
theorem dX8_readBoat_61 : decode cX8_readBoat 61 = .ok (.aload_n 0, 1) := by decide +kernel
theorem dX8_readBoat_62 : decode cX8_readBoat 62 = .ok (.iconst 0, 1) := by decide +kernel
theorem dX8_readBoat_63 : decode cX8_readBoat 63 = .ok (.bipush 20, 2) := by decide +kernel
theorem dX8_readBoat_65 : decode cX8_readBoat 65 = .ok (.invokevirtual 160, 3) := by decide +kernel
theorem dX8_readBoat_68 : decode cX8_readBoat 68 = .ok (.istore_n 3, 1) := by decide +kernel
theorem dX8_readBoat_69 : decode cX8_readBoat 69 = .ok (.iconst 0, 1) := by decide +kernel
theorem dX8_readBoat_70 : decode cX8_readBoat 70 = .ok (.istore 4, 2) := by decide +kernel
theorem dX8_readBoat_72 : decode cX8_readBoat 72 = .ok (.iload 4, 2) := by decide +kernel
theorem dX8_readBoat_74 : decode cX8_readBoat 74 = .ok (.iconst 4, 1) := by decide +kernel
theorem dX8_readBoat_75 : decode cX8_readBoat 75 = .ok (.if_icmp .ge 42, 3) := by decide +kernel
theorem dX8_readBoat_78 : decode cX8_readBoat 78 = .ok (.aload_n 0, 1) := by decide +kernel
theorem dX8_readBoat_79 : decode cX8_readBoat 79 = .ok (.iconst 0, 1) := by decide +kernel
theorem dX8_readBoat_80 : decode cX8_readBoat 80 = .ok (.bipush 9, 2) := by decide +kernel
theorem dX8_readBoat_82 : decode cX8_readBoat 82 = .ok (.invokevirtual 160, 3) := by decide +kernel
theorem dX8_readBoat_85 : decode cX8_readBoat 85 = .ok (.istore 5, 2) := by decide +kernel
theorem dX8_readBoat_87 : decode cX8_readBoat 87 = .ok (.aload_n 0, 1) := by decide +kernel
theorem dX8_readBoat_88 : decode cX8_readBoat 88 = .ok (.getfield 22, 3) := by decide +kernel
theorem dX8_readBoat_91 : decode cX8_readBoat 91 = .ok (.iload_n 2, 1) := by decide +kernel
theorem dX8_readBoat_92 : decode cX8_readBoat 92 = .ok (.iconst 2, 1) := by decide +kernel
theorem dX8_readBoat_93 : decode cX8_readBoat 93 = .ok (.iadd, 1) := by decide +kernel
theorem dX8_readBoat_94 : decode cX8_readBoat 94 = .ok (.iload 4, 2) := by decide +kernel
theorem dX8_readBoat_96 : decode cX8_readBoat 96 = .ok (.iadd, 1) := by decide +kernel
theorem dX8_readBoat_97 : decode cX8_readBoat 97 = .ok (.aload_n 0, 1) := by decide +kernel
theorem dX8_readBoat_98 : decode cX8_readBoat 98 = .ok (.getfield 123, 3) := by decide +kernel
theorem dX8_readBoat_101 : decode cX8_readBoat 101 = .ok (.ifCond .ne 8, 3) := by decide +kernel
theorem dX8_readBoat_104 : decode cX8_readBoat 104 = .ok (.iload 5, 2) := by decide +kernel
theorem dX8_readBoat_106 : decode cX8_readBoat 106 = .ok (.goto 4, 3) := by decide +kernel
theorem dX8_readBoat_109 : decode cX8_readBoat 109 = .ok (.iconst 0, 1) := by decide +kernel
theorem dX8_readBoat_110 : decode cX8_readBoat 110 = .ok (.iastore, 1) := by decide +kernel
theorem dX8_readBoat_111 : decode cX8_readBoat 111 = .ok (.iinc 4 1, 3) := by decide +kernel
theorem dX8_readBoat_114 : decode cX8_readBoat 114 = .ok (.goto (-42), 3) := by decide +kernel
theorem dX8_readBoat_117 : decode cX8_readBoat 117 = .ok (.aload_n 0, 1) := by decide +kernel
theorem dX8_readBoat_118 : decode cX8_readBoat 118 = .ok (.invokevirtual 164, 3) := by decide +kernel
theorem dX8_readBoat_121 : decode cX8_readBoat 121 = .ok (.aload_n 0, 1) := by decide +kernel
theorem dX8_readBoat_122 : decode cX8_readBoat 122 = .ok (.getfield 123, 3) := by decide +kernel
theorem dX8_readBoat_125 : decode cX8_readBoat 125 = .ok (.ifCond .ne 29, 3) := by decide +kernel
theorem dX8_readBoat_128 : decode cX8_readBoat 128 = .ok (.aload_n 0, 1) := by decide +kernel
theorem dX8_readBoat_129 : decode cX8_readBoat 129 = .ok (.getfield 22, 3) := by decide +kernel
theorem dX8_readBoat_132 : decode cX8_readBoat 132 = .ok (.iload_n 2, 1) := by decide +kernel
theorem dX8_readBoat_133 : decode cX8_readBoat 133 = .ok (.iload_n 1, 1) := by decide +kernel
theorem dX8_readBoat_134 : decode cX8_readBoat 134 = .ok (.iastore, 1) := by decide +kernel
theorem dX8_readBoat_135 : decode cX8_readBoat 135 = .ok (.aload_n 0, 1) := by decide +kernel
theorem dX8_readBoat_136 : decode cX8_readBoat 136 = .ok (.getfield 22, 3) := by decide +kernel
theorem dX8_readBoat_139 : decode cX8_readBoat 139 = .ok (.iload_n 2, 1) := by decide +kernel
theorem dX8_readBoat_140 : decode cX8_readBoat 140 = .ok (.iconst 1, 1) := by decide +kernel
theorem dX8_readBoat_141 : decode cX8_readBoat 141 = .ok (.iadd, 1) := by decide +kernel
theorem dX8_readBoat_142 : decode cX8_readBoat 142 = .ok (.iload_n 3, 1) := by decide +kernel
theorem dX8_readBoat_143 : decode cX8_readBoat 143 = .ok (.iastore, 1) := by decide +kernel
theorem dX8_readBoat_144 : decode cX8_readBoat 144 = .ok (.aload_n 0, 1) := by decide +kernel
theorem dX8_readBoat_145 : decode cX8_readBoat 145 = .ok (.getfield 22, 3) := by decide +kernel
theorem dX8_readBoat_148 : decode cX8_readBoat 148 = .ok (.iconst 1, 1) := by decide +kernel
theorem dX8_readBoat_149 : decode cX8_readBoat 149 = .ok (.dup2, 1) := by decide +kernel
theorem dX8_readBoat_150 : decode cX8_readBoat 150 = .ok (.iaload, 1) := by decide +kernel
theorem dX8_readBoat_151 : decode cX8_readBoat 151 = .ok (.iconst 1, 1) := by decide +kernel
theorem dX8_readBoat_152 : decode cX8_readBoat 152 = .ok (.iadd, 1) := by decide +kernel
theorem dX8_readBoat_153 : decode cX8_readBoat 153 = .ok (.iastore, 1) := by decide +kernel
theorem dX8_readBoat_154 : decode cX8_readBoat 154 = .ok (.return_, 1) := by decide +kernel
theorem yv_X8_readBoat : YV yX8_readBoat cX8_readBoat 6 none 0 := ⟨m1098, ms42, m9, m1099, ⟨by decide +kernel, by decide +kernel, by decide +kernel⟩, by decide⟩
noncomputable def f_X8_readBoat_72 (q : Nat) : Nat → Int32 → Int32 → Int32 → Int32 → AH → Option (Unit × AH)
  | 0, _, _, _, _, _ => none
  | n + 1, x1, x2, x3, x4, h => if (4 : Int32) ≤ x4 then (bd (f_X8_mustEnd q h) (fun _ h_1 => if (h_1 q 18) = 0 then (ck x2 100 (lt (hset h_1 (q + 5) (x2 : Int32).toNatClampNeg x1) (fun h_4 => lt ((x2 + 1)) (fun v_6 => ck v_6 100 (lt (hset h_4 (q + 5) (v_6 : Int32).toNatClampNeg x3) (fun h_7 => ck 1 100 (ck 1 100 (lt (hset h_7 (q + 5) (1 : Int32).toNatClampNeg ((h_7 (q + 5) (1 : Int32).toNatClampNeg) + 1)) (fun h_9 => some ((), h_9)))))))))) else (some ((), h_1)))) else (bd (f_X8_number q 0 9 h) (fun v_11 h_10 => if (h_10 q 18) = 0 then (lt (((x2 + 2) + x4)) (fun v_16 => ck v_16 100 (lt (hset h_10 (q + 5) (v_16 : Int32).toNatClampNeg v_11) (fun h_17 => lt (x4 + 1) (fun v_18 => (f_X8_readBoat_72 q n) x1 x2 x3 v_18 h_17))))) else (lt (((x2 + 2) + x4)) (fun v_13 => ck v_13 100 (lt (hset h_10 (q + 5) (v_13 : Int32).toNatClampNeg 0) (fun h_14 => lt (x4 + 1) (fun v_15 => (f_X8_readBoat_72 q n) x1 x2 x3 v_15 h_14)))))))
set_option maxRecDepth 20000 in
set_option maxHeartbeats 4000000 in
theorem t_X8_readBoat_72 {z : MC} {g : GC} {A : Nat → Prop} (F : Fx z cX8_readBoat 6 RX8 none 5 g A) {q : Nat} (hq : (gL g)[q]? = some (.inl 8)) : ∀ (n : Nat) (x1 : Int32) (x2 : Int32) (x3 : Int32) (x4 : Int32) (h : AH), Snd z 6 g A (QF z g A mkU) 72 [(0, .ref (gad g q)), (1, .int x1), (2, .int x2), (3, .int x3), (4, .int x4)] [] h (f_X8_readBoat_72 q n x1 x2 x3 x4 h) := by
  intro n
  induction n with
  | zero => intros; exact s_none
  | succ n ih =>
    intro x1 x2 x3 x4 h
    unfold f_X8_readBoat_72
    refine s_iload F dX8_readBoat_72 4 rfl ?_
    refine s_iconst F (v := 4) dX8_readBoat_74 (by decide) ?_
    refine s_icmp_ge F 117 dX8_readBoat_75 (by decide) (fun _ => ?_) (fun _ => ?_)
    · refine s_aload_n F dX8_readBoat_117 rfl 0 rfl ?_
      refine s_callVu (f := fun hh => f_X8_mustEnd q hh) (As := []) F yv_X8_mustEnd (ct_X8_mustEnd z.2.1 g hq) (by decide) m1082 hq rfl rfl rfl (Nat.le_of_ble_eq_true rfl) dX8_readBoat_118 (fun _ h_1 e_v_2 => ?_)
      refine s_aload_n F dX8_readBoat_121 rfl 0 rfl ?_
      refine s_geti F ciX8 18 hq (by decide) rfl rfl m911 dX8_readBoat_122 ?_
      refine s_if_ne F 154 dX8_readBoat_125 (by decide) (fun _ => ?_) (fun _ => ?_)
      · exact s_vret F dX8_readBoat_154
      · refine s_aload_n F dX8_readBoat_128 rfl 0 rfl ?_
        have hw_3 := wf_ref F.2.2.2.2.2.2.1 hq 6 5 (.inr (0, 100)) rfl
        refine s_getr F ciX8 6 5 (.inr (0, 100)) hq (by decide) rfl rfl m899 dX8_readBoat_129 ?_
        refine s_iload_n F dX8_readBoat_132 rfl 2 rfl ?_
        refine s_iload_n F dX8_readBoat_133 rfl 1 rfl ?_
        refine s_iast F hw_3 dX8_readBoat_134 ?_
        refine s_letH (fun h_4 => ?_)
        refine s_aload_n F dX8_readBoat_135 rfl 0 rfl ?_
        have hw_5 := wf_ref F.2.2.2.2.2.2.1 hq 6 5 (.inr (0, 100)) rfl
        refine s_getr F ciX8 6 5 (.inr (0, 100)) hq (by decide) rfl rfl m899 dX8_readBoat_136 ?_
        refine s_iload_n F dX8_readBoat_139 rfl 2 rfl ?_
        refine s_iconst F (v := 1) dX8_readBoat_140 (by decide) ?_
        refine s_iadd F dX8_readBoat_141 ?_
        refine s_iload_n F dX8_readBoat_142 rfl 3 rfl ?_
        refine s_leti2 (fun v_6 => ?_)
        refine s_iast F hw_5 dX8_readBoat_143 ?_
        refine s_letH (fun h_7 => ?_)
        refine s_aload_n F dX8_readBoat_144 rfl 0 rfl ?_
        have hw_8 := wf_ref F.2.2.2.2.2.2.1 hq 6 5 (.inr (0, 100)) rfl
        refine s_getr F ciX8 6 5 (.inr (0, 100)) hq (by decide) rfl rfl m899 dX8_readBoat_145 ?_
        refine s_iconst F (v := 1) dX8_readBoat_148 (by decide) ?_
        refine s_dup2 F dX8_readBoat_149 rfl rfl ?_
        refine s_iald F hw_8 dX8_readBoat_150 ?_
        refine s_iconst F (v := 1) dX8_readBoat_151 (by decide) ?_
        refine s_iadd F dX8_readBoat_152 ?_
        refine s_iast F hw_8 dX8_readBoat_153 ?_
        refine s_letH (fun h_9 => ?_)
        exact s_vret F dX8_readBoat_154
    · refine s_aload_n F dX8_readBoat_78 rfl 0 rfl ?_
      refine s_iconst F (v := 0) dX8_readBoat_79 (by decide) ?_
      refine s_bipush F (v := 9) dX8_readBoat_80 (by decide) ?_
      refine s_callVi (f := fun hh => f_X8_number q 0 9 hh) (As := [.int 0, .int 9]) F yv_X8_number (ct_X8_number z.2.1 g hq 0 9) (by decide) m1074 hq rfl rfl rfl (Nat.le_of_ble_eq_true rfl) dX8_readBoat_82 (fun v_11 h_10 e_v_11 => ?_)
      refine s_istore F (lv' := [(5, .int v_11), (0, .ref (gad g q)), (1, .int x1), (2, .int x2), (3, .int x3), (4, .int x4)]) dX8_readBoat_85 (by decide) rfl ?_
      refine s_aload_n F dX8_readBoat_87 rfl 1 rfl ?_
      have hw_12 := wf_ref F.2.2.2.2.2.2.1 hq 6 5 (.inr (0, 100)) rfl
      refine s_getr F ciX8 6 5 (.inr (0, 100)) hq (by decide) rfl rfl m899 dX8_readBoat_88 ?_
      refine s_iload_n F dX8_readBoat_91 rfl 3 rfl ?_
      refine s_iconst F (v := 2) dX8_readBoat_92 (by decide) ?_
      refine s_iadd F dX8_readBoat_93 ?_
      refine s_iload F dX8_readBoat_94 5 rfl ?_
      refine s_iadd F dX8_readBoat_96 ?_
      refine s_aload_n F dX8_readBoat_97 rfl 1 rfl ?_
      refine s_geti F ciX8 18 hq (by decide) rfl rfl m911 dX8_readBoat_98 ?_
      refine s_if_ne F 109 dX8_readBoat_101 (by decide) (fun _ => ?_) (fun _ => ?_)
      · refine s_iconst F (v := 0) dX8_readBoat_109 (by decide) ?_
        refine s_leti2 (fun v_13 => ?_)
        refine s_iast F hw_12 dX8_readBoat_110 ?_
        refine s_letH (fun h_14 => ?_)
        refine s_iincv F dX8_readBoat_111 5 rfl (by decide) (c := 1) (by decide) (fun v_15 => ?_)
        refine s_lv (lv' := [(4, .int v_15), (5, .int v_11), (0, .ref (gad g q)), (1, .int x1), (2, .int x2), (3, .int x3)]) rfl ?_
        refine s_goto F 72 dX8_readBoat_114 (by decide) ?_
        exact s_sub [2, 3, 4, 5, 0] rfl (ih x1 x2 x3 v_15 h_14)
      · refine s_iload F dX8_readBoat_104 0 rfl ?_
        refine s_goto F 110 dX8_readBoat_106 (by decide) ?_
        refine s_leti2 (fun v_16 => ?_)
        refine s_iast F hw_12 dX8_readBoat_110 ?_
        refine s_letH (fun h_17 => ?_)
        refine s_iincv F dX8_readBoat_111 5 rfl (by decide) (c := 1) (by decide) (fun v_18 => ?_)
        refine s_lv (lv' := [(4, .int v_18), (5, .int v_11), (0, .ref (gad g q)), (1, .int x1), (2, .int x2), (3, .int x3)]) rfl ?_
        refine s_goto F 72 dX8_readBoat_114 (by decide) ?_
        exact s_sub [2, 3, 4, 5, 0] rfl (ih x1 x2 x3 v_18 h_17)
noncomputable def f_X8_readBoat_59 (q : Nat) (x1 : Int32) (y0 : Int32) (y1 : Int32) (h : AH) : Option (Unit × AH) := lt ((y1 + y0)) (fun v_1 => bd (f_X8_number q 0 20 h) (fun v_3 h_2 => f_X8_readBoat_72 q fu x1 v_1 v_3 0 h_2))
set_option maxRecDepth 20000 in
set_option maxHeartbeats 4000000 in
theorem t_X8_readBoat_59 {z : MC} {g : GC} {A : Nat → Prop} (F : Fx z cX8_readBoat 6 RX8 none 5 g A) {q : Nat} (hq : (gL g)[q]? = some (.inl 8)) : ∀ (x1 : Int32) (y0 : Int32) (y1 : Int32) (h : AH), Snd z 6 g A (QF z g A mkU) 59 [(0, .ref (gad g q)), (1, .int x1)] [.int y0, .int y1] h (f_X8_readBoat_59 q x1 y0 y1 h) := by
  intro x1 y0 y1 h
  unfold f_X8_readBoat_59
  refine s_iadd F dX8_readBoat_59 ?_
  refine s_leti (fun v_1 => ?_)
  refine s_istore_n F (lv' := [(2, .int v_1), (0, .ref (gad g q)), (1, .int x1)]) dX8_readBoat_60 rfl (by decide) rfl ?_
  refine s_aload_n F dX8_readBoat_61 rfl 1 rfl ?_
  refine s_iconst F (v := 0) dX8_readBoat_62 (by decide) ?_
  refine s_bipush F (v := 20) dX8_readBoat_63 (by decide) ?_
  refine s_callVi (f := fun hh => f_X8_number q 0 20 hh) (As := [.int 0, .int 20]) F yv_X8_number (ct_X8_number z.2.1 g hq 0 20) (by decide) m1074 hq rfl rfl rfl (Nat.le_of_ble_eq_true rfl) dX8_readBoat_65 (fun v_3 h_2 e_v_3 => ?_)
  refine s_istore_n F (lv' := [(3, .int v_3), (2, .int v_1), (0, .ref (gad g q)), (1, .int x1)]) dX8_readBoat_68 rfl (by decide) rfl ?_
  refine s_iconst F (v := 0) dX8_readBoat_69 (by decide) ?_
  refine s_istore F (lv' := [(4, .int 0), (3, .int v_3), (2, .int v_1), (0, .ref (gad g q)), (1, .int x1)]) dX8_readBoat_70 (by decide) rfl ?_
  exact s_sub [3, 4, 2, 1, 0] rfl (t_X8_readBoat_72 F hq fu x1 v_1 v_3 0 h_2)
noncomputable def f_X8_readBoat_37 (q : Nat) (x1 : Int32) (h : AH) : Option (Unit × AH) := if (h q 18) = 0 then (ck 1 100 (f_X8_readBoat_59 q x1 (7 * (h (q + 5) (1 : Int32).toNatClampNeg)) 58 h)) else (f_X8_readBoat_59 q x1 0 58 h)
set_option maxRecDepth 20000 in
set_option maxHeartbeats 4000000 in
theorem t_X8_readBoat_37 {z : MC} {g : GC} {A : Nat → Prop} (F : Fx z cX8_readBoat 6 RX8 none 5 g A) {q : Nat} (hq : (gL g)[q]? = some (.inl 8)) : ∀ (x1 : Int32) (h : AH), Snd z 6 g A (QF z g A mkU) 37 [(0, .ref (gad g q)), (1, .int x1)] [] h (f_X8_readBoat_37 q x1 h) := by
  intro x1 h
  unfold f_X8_readBoat_37
  refine s_bipush F (v := 58) dX8_readBoat_37 (by decide) ?_
  refine s_aload_n F dX8_readBoat_39 rfl 0 rfl ?_
  refine s_geti F ciX8 18 hq (by decide) rfl rfl m911 dX8_readBoat_40 ?_
  refine s_if_ne F 58 dX8_readBoat_43 (by decide) (fun _ => ?_) (fun _ => ?_)
  · refine s_iconst F (v := 0) dX8_readBoat_58 (by decide) ?_
    exact s_sub [0, 1] rfl (t_X8_readBoat_59 F hq x1 0 58 h)
  · refine s_bipush F (v := 7) dX8_readBoat_46 (by decide) ?_
    refine s_aload_n F dX8_readBoat_48 rfl 0 rfl ?_
    have hw_1 := wf_ref F.2.2.2.2.2.2.1 hq 6 5 (.inr (0, 100)) rfl
    refine s_getr F ciX8 6 5 (.inr (0, 100)) hq (by decide) rfl rfl m899 dX8_readBoat_49 ?_
    refine s_iconst F (v := 1) dX8_readBoat_52 (by decide) ?_
    refine s_iald F hw_1 dX8_readBoat_53 ?_
    refine s_imul F dX8_readBoat_54 ?_
    refine s_goto F 59 dX8_readBoat_55 (by decide) ?_
    exact s_sub [0, 1] rfl (t_X8_readBoat_59 F hq x1 (7 * (h (q + 5) (1 : Int32).toNatClampNeg)) 58 h)
noncomputable def f_X8_readBoat_34 (q : Nat) (x1 : Int32) (y0 : Int32) (h : AH) : Option (Unit × AH) := bd (f_X8_must q y0 h) (fun _ h_1 => f_X8_readBoat_37 q x1 h_1)
set_option maxRecDepth 20000 in
set_option maxHeartbeats 4000000 in
theorem t_X8_readBoat_34 {z : MC} {g : GC} {A : Nat → Prop} (F : Fx z cX8_readBoat 6 RX8 none 5 g A) {q : Nat} (hq : (gL g)[q]? = some (.inl 8)) : ∀ (x1 : Int32) (y0 : Int32) (h : AH), Snd z 6 g A (QF z g A mkU) 34 [(0, .ref (gad g q)), (1, .int x1)] [.int y0, .ref (gad g q)] h (f_X8_readBoat_34 q x1 y0 h) := by
  intro x1 y0 h
  unfold f_X8_readBoat_34
  refine s_callVu (f := fun hh => f_X8_must q y0 hh) (As := [.int y0]) F yv_X8_must (ct_X8_must z.2.1 g hq y0) (by decide) m1066 hq rfl rfl rfl (Nat.le_of_ble_eq_true rfl) dX8_readBoat_34 (fun _ h_1 e_v_2 => ?_)
  exact s_sub [0, 1] rfl (t_X8_readBoat_37 F hq x1 h_1)
noncomputable def f_X8_readBoat (q : Nat) (h : AH) : Option (Unit × AH) := bd (f_X8_begins q 1 6 h) (fun _ h_1 => bd (f_X8_name q h_1) (fun v_4 h_3 => bd (f_X8_kindBy v_4 h_3) (fun v_6 h_5 => if (h_5 q 18) = 0 then (if v_6 = (-1000000) then (f_X8_readBoat_34 q v_6 0 h_5) else (f_X8_readBoat_34 q v_6 1 h_5)) else (f_X8_readBoat_37 q v_6 h_5))))
set_option maxRecDepth 20000 in
set_option maxHeartbeats 4000000 in
theorem ct_X8_readBoat (l : Launch) (g : GC) {q : Nat} (hq : (gL g)[q]? = some (.inl 8)) : Ct l yX8_readBoat cX8_readBoat 6 none 5 [.ref (gad g q)] g mkU (fun h => f_X8_readBoat q h) := by
  refine Ct.of (by decide +kernel) (Nat.le_of_ble_eq_true rfl) (fun z A h _ F => ?_)
  show Snd z 6 g A (QF z g A mkU) 0 [(0, .ref (gad g q))] [] h (f_X8_readBoat q h)
  unfold f_X8_readBoat
  refine s_aload_n F dX8_readBoat_0 rfl 0 rfl ?_
  refine s_iconst F (v := 1) dX8_readBoat_1 (by decide) ?_
  refine s_bipush F (v := 6) dX8_readBoat_2 (by decide) ?_
  refine s_callVu (f := fun hh => f_X8_begins q 1 6 hh) (As := [.int 1, .int 6]) F yv_X8_begins (ct_X8_begins z.2.1 g hq 1 6) (by decide) m1091 hq rfl rfl rfl (Nat.le_of_ble_eq_true rfl) dX8_readBoat_4 (fun _ h_1 e_v_2 => ?_)
  refine s_aload_n F dX8_readBoat_7 rfl 0 rfl ?_
  refine s_callVl (f := fun hh => f_X8_name q hh) (As := []) F yv_X8_name (ct_X8_name z.2.1 g hq) (by decide) m1061 hq rfl rfl rfl (Nat.le_of_ble_eq_true rfl) dX8_readBoat_8 (fun v_4 h_3 e_v_4 => ?_)
  refine s_callSi (f := fun hh => f_X8_kindBy v_4 hh) (As := [.long v_4]) F ys_X8_kindBy (ct_X8_kindBy z.2.1 g v_4) (by decide) m1100 rfl rfl (Nat.le_of_ble_eq_true rfl) dX8_readBoat_11 (fun v_6 h_5 e_v_6 => ?_)
  refine s_istore_n F (lv' := [(1, .int v_6), (0, .ref (gad g q))]) dX8_readBoat_14 rfl (by decide) rfl ?_
  refine s_aload_n F dX8_readBoat_15 rfl 1 rfl ?_
  refine s_geti F ciX8 18 hq (by decide) rfl rfl m911 dX8_readBoat_16 ?_
  refine s_if_ne F 37 dX8_readBoat_19 (by decide) (fun _ => ?_) (fun _ => ?_)
  · exact s_sub [1, 0] rfl (t_X8_readBoat_37 F hq v_6 h_5)
  · refine s_aload_n F dX8_readBoat_22 rfl 1 rfl ?_
    refine s_iload_n F dX8_readBoat_23 rfl 0 rfl ?_
    refine s_ldc F (v := (-1000000)) dX8_readBoat_24 m1050 ?_
    refine s_icmp_eq F 33 dX8_readBoat_26 (by decide) (fun _ => ?_) (fun _ => ?_)
    · refine s_iconst F (v := 0) dX8_readBoat_33 (by decide) ?_
      exact s_sub [1, 0] rfl (t_X8_readBoat_34 F hq v_6 0 h_5)
    · refine s_iconst F (v := 1) dX8_readBoat_29 (by decide) ?_
      refine s_goto F 34 dX8_readBoat_30 (by decide) ?_
      exact s_sub [1, 0] rfl (t_X8_readBoat_34 F hq v_6 1 h_5)
theorem dX8_readTide_0 : decode cX8_readTide 0 = .ok (.aload_n 0, 1) := by decide +kernel
theorem dX8_readTide_1 : decode cX8_readTide 1 = .ok (.aload_n 0, 1) := by decide +kernel
theorem dX8_readTide_2 : decode cX8_readTide 2 = .ok (.invokevirtual 154, 3) := by decide +kernel
theorem dX8_readTide_5 : decode cX8_readTide 5 = .ok (.ldc2_w 158, 3) := by decide +kernel
theorem dX8_readTide_8 : decode cX8_readTide 8 = .ok (.lcmp, 1) := by decide +kernel
theorem dX8_readTide_9 : decode cX8_readTide 9 = .ok (.ifCond .ne 7, 3) := by decide +kernel
theorem dX8_readTide_12 : decode cX8_readTide 12 = .ok (.iconst 1, 1) := by decide +kernel
theorem dX8_readTide_13 : decode cX8_readTide 13 = .ok (.goto 4, 3) := by decide +kernel
theorem dX8_readTide_16 : decode cX8_readTide 16 = .ok (.iconst 0, 1) := by decide +kernel
theorem dX8_readTide_17 : decode cX8_readTide 17 = .ok (.invokevirtual 140, 3) := by decide +kernel
theorem dX8_readTide_20 : decode cX8_readTide 20 = .ok (.iconst 0, 1) := by decide +kernel
theorem dX8_readTide_21 : decode cX8_readTide 21 = .ok (.istore_n 1, 1) := by decide +kernel
theorem dX8_readTide_22 : decode cX8_readTide 22 = .ok (.iload_n 1, 1) := by decide +kernel
theorem dX8_readTide_23 : decode cX8_readTide 23 = .ok (.bipush 11, 2) := by decide +kernel
theorem dX8_readTide_25 : decode cX8_readTide 25 = .ok (.if_icmp .gt 24, 3) := by decide +kernel
theorem dX8_readTide_28 : decode cX8_readTide 28 = .ok (.aload_n 0, 1) := by decide +kernel
theorem dX8_readTide_29 : decode cX8_readTide 29 = .ok (.getfield 22, 3) := by decide +kernel
theorem dX8_readTide_32 : decode cX8_readTide 32 = .ok (.iconst 4, 1) := by decide +kernel
theorem dX8_readTide_33 : decode cX8_readTide 33 = .ok (.iload_n 1, 1) := by decide +kernel
theorem dX8_readTide_34 : decode cX8_readTide 34 = .ok (.iadd, 1) := by decide +kernel
theorem dX8_readTide_35 : decode cX8_readTide 35 = .ok (.aload_n 0, 1) := by decide +kernel
theorem dX8_readTide_36 : decode cX8_readTide 36 = .ok (.iconst 0, 1) := by decide +kernel
theorem dX8_readTide_37 : decode cX8_readTide 37 = .ok (.bipush 20, 2) := by decide +kernel
theorem dX8_readTide_39 : decode cX8_readTide 39 = .ok (.invokevirtual 160, 3) := by decide +kernel
theorem dX8_readTide_42 : decode cX8_readTide 42 = .ok (.iastore, 1) := by decide +kernel
theorem dX8_readTide_43 : decode cX8_readTide 43 = .ok (.iinc 1 1, 3) := by decide +kernel
theorem dX8_readTide_46 : decode cX8_readTide 46 = .ok (.goto (-24), 3) := by decide +kernel
theorem dX8_readTide_49 : decode cX8_readTide 49 = .ok (.aload_n 0, 1) := by decide +kernel
theorem dX8_readTide_50 : decode cX8_readTide 50 = .ok (.invokevirtual 164, 3) := by decide +kernel
theorem dX8_readTide_53 : decode cX8_readTide 53 = .ok (.return_, 1) := by decide +kernel
theorem yv_X8_readTide : YV yX8_readTide cX8_readTide 2 none 0 := ⟨m1059, ms33, m9, m1060, ⟨by decide +kernel, by decide +kernel, by decide +kernel⟩, by decide⟩
noncomputable def f_X8_readTide_22 (q : Nat) : Nat → Int32 → AH → Option (Unit × AH)
  | 0, _, _ => none
  | n + 1, x1, h => if (11 : Int32) < x1 then (bd (f_X8_mustEnd q h) (fun _ h_1 => some ((), h_1))) else (bd (f_X8_number q 0 20 h) (fun v_5 h_4 => lt ((4 + x1)) (fun v_6 => ck v_6 100 (lt (hset h_4 (q + 5) (v_6 : Int32).toNatClampNeg v_5) (fun h_7 => lt (x1 + 1) (fun v_8 => (f_X8_readTide_22 q n) v_8 h_7))))))
set_option maxRecDepth 20000 in
set_option maxHeartbeats 4000000 in
theorem t_X8_readTide_22 {z : MC} {g : GC} {A : Nat → Prop} (F : Fx z cX8_readTide 2 RX8 none 5 g A) {q : Nat} (hq : (gL g)[q]? = some (.inl 8)) : ∀ (n : Nat) (x1 : Int32) (h : AH), Snd z 2 g A (QF z g A mkU) 22 [(0, .ref (gad g q)), (1, .int x1)] [] h (f_X8_readTide_22 q n x1 h) := by
  intro n
  induction n with
  | zero => intros; exact s_none
  | succ n ih =>
    intro x1 h
    unfold f_X8_readTide_22
    refine s_iload_n F dX8_readTide_22 rfl 1 rfl ?_
    refine s_bipush F (v := 11) dX8_readTide_23 (by decide) ?_
    refine s_icmp_gt F 49 dX8_readTide_25 (by decide) (fun _ => ?_) (fun _ => ?_)
    · refine s_aload_n F dX8_readTide_49 rfl 0 rfl ?_
      refine s_callVu (f := fun hh => f_X8_mustEnd q hh) (As := []) F yv_X8_mustEnd (ct_X8_mustEnd z.2.1 g hq) (by decide) m1082 hq rfl rfl rfl (Nat.le_of_ble_eq_true rfl) dX8_readTide_50 (fun _ h_1 e_v_2 => ?_)
      exact s_vret F dX8_readTide_53
    · refine s_aload_n F dX8_readTide_28 rfl 0 rfl ?_
      have hw_3 := wf_ref F.2.2.2.2.2.2.1 hq 6 5 (.inr (0, 100)) rfl
      refine s_getr F ciX8 6 5 (.inr (0, 100)) hq (by decide) rfl rfl m899 dX8_readTide_29 ?_
      refine s_iconst F (v := 4) dX8_readTide_32 (by decide) ?_
      refine s_iload_n F dX8_readTide_33 rfl 1 rfl ?_
      refine s_iadd F dX8_readTide_34 ?_
      refine s_aload_n F dX8_readTide_35 rfl 0 rfl ?_
      refine s_iconst F (v := 0) dX8_readTide_36 (by decide) ?_
      refine s_bipush F (v := 20) dX8_readTide_37 (by decide) ?_
      refine s_callVi (f := fun hh => f_X8_number q 0 20 hh) (As := [.int 0, .int 20]) F yv_X8_number (ct_X8_number z.2.1 g hq 0 20) (by decide) m1074 hq rfl rfl rfl (Nat.le_of_ble_eq_true rfl) dX8_readTide_39 (fun v_5 h_4 e_v_5 => ?_)
      refine s_leti2 (fun v_6 => ?_)
      refine s_iast F hw_3 dX8_readTide_42 ?_
      refine s_letH (fun h_7 => ?_)
      refine s_iincv F dX8_readTide_43 1 rfl (by decide) (c := 1) (by decide) (fun v_8 => ?_)
      refine s_lv (lv' := [(1, .int v_8), (0, .ref (gad g q))]) rfl ?_
      refine s_goto F 22 dX8_readTide_46 (by decide) ?_
      exact s_sub [1, 0] rfl (ih v_8 h_7)
noncomputable def f_X8_readTide (q : Nat) (h : AH) : Option (Unit × AH) := bd (f_X8_name q h) (fun v_2 h_1 => if (lg_cmp v_2 1953064037) = 0 then (bd (f_X8_must q 1 h_1) (fun _ h_5 => f_X8_readTide_22 q fu 0 h_5)) else (bd (f_X8_must q 0 h_1) (fun _ h_3 => f_X8_readTide_22 q fu 0 h_3)))
set_option maxRecDepth 20000 in
set_option maxHeartbeats 4000000 in
theorem ct_X8_readTide (l : Launch) (g : GC) {q : Nat} (hq : (gL g)[q]? = some (.inl 8)) : Ct l yX8_readTide cX8_readTide 2 none 5 [.ref (gad g q)] g mkU (fun h => f_X8_readTide q h) := by
  refine Ct.of (by decide +kernel) (Nat.le_of_ble_eq_true rfl) (fun z A h _ F => ?_)
  show Snd z 2 g A (QF z g A mkU) 0 [(0, .ref (gad g q))] [] h (f_X8_readTide q h)
  unfold f_X8_readTide
  refine s_aload_n F dX8_readTide_0 rfl 0 rfl ?_
  refine s_aload_n F dX8_readTide_1 rfl 0 rfl ?_
  refine s_callVl (f := fun hh => f_X8_name q hh) (As := []) F yv_X8_name (ct_X8_name z.2.1 g hq) (by decide) m1061 hq rfl rfl rfl (Nat.le_of_ble_eq_true rfl) dX8_readTide_2 (fun v_2 h_1 e_v_2 => ?_)
  refine s_ldc2 F (v := 1953064037) dX8_readTide_5 m1065 ?_
  refine s_lcmp F dX8_readTide_8 ?_
  refine s_if_ne F 16 dX8_readTide_9 (by decide) (fun _ => ?_) (fun _ => ?_)
  · refine s_iconst F (v := 0) dX8_readTide_16 (by decide) ?_
    refine s_callVu (f := fun hh => f_X8_must q 0 hh) (As := [.int 0]) F yv_X8_must (ct_X8_must z.2.1 g hq 0) (by decide) m1066 hq rfl rfl rfl (Nat.le_of_ble_eq_true rfl) dX8_readTide_17 (fun _ h_3 e_v_4 => ?_)
    refine s_iconst F (v := 0) dX8_readTide_20 (by decide) ?_
    refine s_istore_n F (lv' := [(1, .int 0), (0, .ref (gad g q))]) dX8_readTide_21 rfl (by decide) rfl ?_
    exact s_sub [1, 0] rfl (t_X8_readTide_22 F hq fu 0 h_3)
  · refine s_iconst F (v := 1) dX8_readTide_12 (by decide) ?_
    refine s_goto F 17 dX8_readTide_13 (by decide) ?_
    refine s_callVu (f := fun hh => f_X8_must q 1 hh) (As := [.int 1]) F yv_X8_must (ct_X8_must z.2.1 g hq 1) (by decide) m1066 hq rfl rfl rfl (Nat.le_of_ble_eq_true rfl) dX8_readTide_17 (fun _ h_5 e_v_6 => ?_)
    refine s_iconst F (v := 0) dX8_readTide_20 (by decide) ?_
    refine s_istore_n F (lv' := [(1, .int 0), (0, .ref (gad g q))]) dX8_readTide_21 rfl (by decide) rfl ?_
    exact s_sub [1, 0] rfl (t_X8_readTide_22 F hq fu 0 h_5)
theorem dX8_bridge_0 : decode cX8_bridge 0 = .ok (.aload_n 0, 1) := by decide +kernel
theorem dX8_bridge_1 : decode cX8_bridge 1 = .ok (.iconst 0, 1) := by decide +kernel
theorem dX8_bridge_2 : decode cX8_bridge 2 = .ok (.putfield 65, 3) := by decide +kernel
theorem dX8_bridge_5 : decode cX8_bridge 5 = .ok (.aload_n 0, 1) := by decide +kernel
theorem dX8_bridge_6 : decode cX8_bridge 6 = .ok (.invokevirtual 175, 3) := by decide +kernel
theorem dX8_bridge_9 : decode cX8_bridge 9 = .ok (.iconst 0, 1) := by decide +kernel
theorem dX8_bridge_10 : decode cX8_bridge 10 = .ok (.istore_n 1, 1) := by decide +kernel
theorem dX8_bridge_11 : decode cX8_bridge 11 = .ok (.iload_n 1, 1) := by decide +kernel
theorem dX8_bridge_12 : decode cX8_bridge 12 = .ok (.bipush 100, 2) := by decide +kernel
theorem dX8_bridge_14 : decode cX8_bridge 14 = .ok (.if_icmp .ge 16, 3) := by decide +kernel
theorem dX8_bridge_17 : decode cX8_bridge 17 = .ok (.aload_n 0, 1) := by decide +kernel
theorem dX8_bridge_18 : decode cX8_bridge 18 = .ok (.getfield 22, 3) := by decide +kernel
theorem dX8_bridge_21 : decode cX8_bridge 21 = .ok (.iload_n 1, 1) := by decide +kernel
theorem dX8_bridge_22 : decode cX8_bridge 22 = .ok (.iconst 0, 1) := by decide +kernel
theorem dX8_bridge_23 : decode cX8_bridge 23 = .ok (.iastore, 1) := by decide +kernel
theorem dX8_bridge_24 : decode cX8_bridge 24 = .ok (.iinc 1 1, 3) := by decide +kernel
theorem dX8_bridge_27 : decode cX8_bridge 27 = .ok (.goto (-16), 3) := by decide +kernel
theorem dX8_bridge_30 : decode cX8_bridge 30 = .ok (.aload_n 0, 1) := by decide +kernel
theorem dX8_bridge_31 : decode cX8_bridge 31 = .ok (.invokevirtual 178, 3) := by decide +kernel
theorem dX8_bridge_34 : decode cX8_bridge 34 = .ok (.aload_n 0, 1) := by decide +kernel
theorem dX8_bridge_35 : decode cX8_bridge 35 = .ok (.invokevirtual 154, 3) := by decide +kernel
theorem dX8_bridge_38 : decode cX8_bridge 38 = .ok (.ldc2_w 181, 3) := by decide +kernel
theorem dX8_bridge_41 : decode cX8_bridge 41 = .ok (.lcmp, 1) := by decide +kernel
theorem dX8_bridge_42 : decode cX8_bridge 42 = .ok (.ifCond .eq 8, 3) := by decide +kernel
theorem dX8_bridge_45 : decode cX8_bridge 45 = .ok (.aload_n 0, 1) := by decide +kernel
theorem dX8_bridge_46 : decode cX8_bridge 46 = .ok (.iconst 1, 1) := by decide +kernel
theorem dX8_bridge_47 : decode cX8_bridge 47 = .ok (.invokevirtual 132, 3) := by decide +kernel
theorem dX8_bridge_50 : decode cX8_bridge 50 = .ok (.aload_n 0, 1) := by decide +kernel
theorem dX8_bridge_51 : decode cX8_bridge 51 = .ok (.invokevirtual 154, 3) := by decide +kernel
theorem dX8_bridge_54 : decode cX8_bridge 54 = .ok (.ldc2_w 181, 3) := by decide +kernel
theorem dX8_bridge_57 : decode cX8_bridge 57 = .ok (.lcmp, 1) := by decide +kernel
theorem dX8_bridge_58 : decode cX8_bridge 58 = .ok (.ifCond .ne 10, 3) := by decide +kernel
theorem dX8_bridge_61 : decode cX8_bridge 61 = .ok (.aload_n 0, 1) := by decide +kernel
theorem dX8_bridge_62 : decode cX8_bridge 62 = .ok (.invokevirtual 183, 3) := by decide +kernel
theorem dX8_bridge_65 : decode cX8_bridge 65 = .ok (.goto (-15), 3) := by decide +kernel
theorem dX8_bridge_68 : decode cX8_bridge 68 = .ok (.aload_n 0, 1) := by decide +kernel
theorem dX8_bridge_69 : decode cX8_bridge 69 = .ok (.invokevirtual 154, 3) := by decide +kernel
theorem dX8_bridge_72 : decode cX8_bridge 72 = .ok (.ldc2_w 186, 3) := by decide +kernel
theorem dX8_bridge_75 : decode cX8_bridge 75 = .ok (.lcmp, 1) := by decide +kernel
theorem dX8_bridge_76 : decode cX8_bridge 76 = .ok (.ifCond .ne 10, 3) := by decide +kernel
theorem dX8_bridge_79 : decode cX8_bridge 79 = .ok (.aload_n 0, 1) := by decide +kernel
theorem dX8_bridge_80 : decode cX8_bridge 80 = .ok (.invokevirtual 188, 3) := by decide +kernel
theorem dX8_bridge_83 : decode cX8_bridge 83 = .ok (.goto (-15), 3) := by decide +kernel
theorem dX8_bridge_86 : decode cX8_bridge 86 = .ok (.aload_n 0, 1) := by decide +kernel
theorem dX8_bridge_87 : decode cX8_bridge 87 = .ok (.getfield 123, 3) := by decide +kernel
theorem dX8_bridge_90 : decode cX8_bridge 90 = .ok (.ifCond .ne 16, 3) := by decide +kernel
theorem dX8_bridge_93 : decode cX8_bridge 93 = .ok (.aload_n 0, 1) := by decide +kernel
theorem dX8_bridge_94 : decode cX8_bridge 94 = .ok (.getfield 111, 3) := by decide +kernel
theorem dX8_bridge_97 : decode cX8_bridge 97 = .ok (.iconst 1, 1) := by decide +kernel
theorem dX8_bridge_98 : decode cX8_bridge 98 = .ok (.if_icmp .eq 8, 3) := by decide +kernel
theorem dX8_bridge_101 : decode cX8_bridge 101 = .ok (.aload_n 0, 1) := by decide +kernel
theorem dX8_bridge_102 : decode cX8_bridge 102 = .ok (.iconst 1, 1) := by decide +kernel
theorem dX8_bridge_103 : decode cX8_bridge 103 = .ok (.invokevirtual 132, 3) := by decide +kernel
theorem dX8_bridge_106 : decode cX8_bridge 106 = .ok (.aload_n 0, 1) := by decide +kernel
theorem dX8_bridge_107 : decode cX8_bridge 107 = .ok (.getfield 123, 3) := by decide +kernel
theorem dX8_bridge_110 : decode cX8_bridge 110 = .ok (.ifCond .le 19, 3) := by decide +kernel
theorem dX8_bridge_113 : decode cX8_bridge 113 = .ok (.aload_n 0, 1) := by decide +kernel
theorem dX8_bridge_114 : decode cX8_bridge 114 = .ok (.aload_n 0, 1) := by decide +kernel
theorem dX8_bridge_115 : decode cX8_bridge 115 = .ok (.getfield 123, 3) := by decide +kernel
theorem dX8_bridge_118 : decode cX8_bridge 118 = .ok (.putfield 191, 3) := by decide +kernel
theorem dX8_bridge_121 : decode cX8_bridge 121 = .ok (.ldc 194, 2) := by decide +kernel
theorem dX8_bridge_123 : decode cX8_bridge 123 = .ok (.aload_n 0, 1) := by decide +kernel
theorem dX8_bridge_124 : decode cX8_bridge 124 = .ok (.getfield 129, 3) := by decide +kernel
theorem dX8_bridge_127 : decode cX8_bridge 127 = .ok (.isub, 1) := by decide +kernel
theorem dX8_bridge_128 : decode cX8_bridge 128 = .ok (.ireturn, 1) := by decide +kernel
theorem dX8_bridge_129 : decode cX8_bridge 129 = .ok (.aload_n 0, 1) := by decide +kernel
theorem dX8_bridge_130 : decode cX8_bridge 130 = .ok (.iconst 1, 1) := by decide +kernel
theorem dX8_bridge_131 : decode cX8_bridge 131 = .ok (.putfield 195, 3) := by decide +kernel
theorem dX8_bridge_134 : decode cX8_bridge 134 = .ok (.aload_n 0, 1) := by decide +kernel
theorem dX8_bridge_135 : decode cX8_bridge 135 = .ok (.iconst 0, 1) := by decide +kernel
theorem dX8_bridge_136 : decode cX8_bridge 136 = .ok (.putfield 199, 3) := by decide +kernel
theorem dX8_bridge_139 : decode cX8_bridge 139 = .ok (.iconst 0, 1) := by decide +kernel
theorem dX8_bridge_140 : decode cX8_bridge 140 = .ok (.istore_n 1, 1) := by decide +kernel
theorem dX8_bridge_141 : decode cX8_bridge 141 = .ok (.iload_n 1, 1) := by decide +kernel
theorem dX8_bridge_142 : decode cX8_bridge 142 = .ok (.bipush 100, 2) := by decide +kernel
theorem dX8_bridge_144 : decode cX8_bridge 144 = .ok (.if_icmp .ge 21, 3) := by decide +kernel
theorem dX8_bridge_147 : decode cX8_bridge 147 = .ok (.aload_n 0, 1) := by decide +kernel
theorem dX8_bridge_148 : decode cX8_bridge 148 = .ok (.getfield 19, 3) := by decide +kernel
theorem dX8_bridge_151 : decode cX8_bridge 151 = .ok (.iload_n 1, 1) := by decide +kernel
theorem dX8_bridge_152 : decode cX8_bridge 152 = .ok (.aload_n 0, 1) := by decide +kernel
theorem dX8_bridge_153 : decode cX8_bridge 153 = .ok (.getfield 22, 3) := by decide +kernel
theorem dX8_bridge_156 : decode cX8_bridge 156 = .ok (.iload_n 1, 1) := by decide +kernel
theorem dX8_bridge_157 : decode cX8_bridge 157 = .ok (.iaload, 1) := by decide +kernel
theorem dX8_bridge_158 : decode cX8_bridge 158 = .ok (.iastore, 1) := by decide +kernel
theorem dX8_bridge_159 : decode cX8_bridge 159 = .ok (.iinc 1 1, 3) := by decide +kernel
theorem dX8_bridge_162 : decode cX8_bridge 162 = .ok (.goto (-21), 3) := by decide +kernel
theorem dX8_bridge_165 : decode cX8_bridge 165 = .ok (.aload_n 0, 1) := by decide +kernel
theorem dX8_bridge_166 : decode cX8_bridge 166 = .ok (.getfield 19, 3) := by decide +kernel
theorem dX8_bridge_169 : decode cX8_bridge 169 = .ok (.iconst 0, 1) := by decide +kernel
theorem dX8_bridge_170 : decode cX8_bridge 170 = .ok (.iaload, 1) := by decide +kernel
theorem dX8_bridge_171 : decode cX8_bridge 171 = .ok (.ireturn, 1) := by decide +kernel
theorem yv_X8_bridge : YV yX8_bridge cX8_bridge 2 (some .int) 0 := ⟨m1035, m1036, m9, m1037, ⟨by decide +kernel, by decide +kernel, by decide +kernel⟩, by decide⟩
noncomputable def f_X8_bridge_141 (q : Nat) : Nat → Int32 → AH → Option (Int32 × AH)
  | 0, _, _ => none
  | n + 1, x1, h => if (100 : Int32) ≤ x1 then (ck 0 100 (some (h (q + 4) (0 : Int32).toNatClampNeg, h))) else (ck x1 100 (ck x1 100 (lt (hset h (q + 4) (x1 : Int32).toNatClampNeg (h (q + 5) (x1 : Int32).toNatClampNeg)) (fun h_4 => lt (x1 + 1) (fun v_5 => (f_X8_bridge_141 q n) v_5 h_4)))))
set_option maxRecDepth 20000 in
set_option maxHeartbeats 4000000 in
theorem t_X8_bridge_141 {z : MC} {g : GC} {A : Nat → Prop} (F : Fx z cX8_bridge 2 RX8 (some .int) 6 g A) {q : Nat} (hq : (gL g)[q]? = some (.inl 8)) : ∀ (n : Nat) (x1 : Int32) (h : AH), Snd z 2 g A (QF z g A mkI) 141 [(0, .ref (gad g q)), (1, .int x1)] [] h (f_X8_bridge_141 q n x1 h) := by
  intro n
  induction n with
  | zero => intros; exact s_none
  | succ n ih =>
    intro x1 h
    unfold f_X8_bridge_141
    refine s_iload_n F dX8_bridge_141 rfl 1 rfl ?_
    refine s_bipush F (v := 100) dX8_bridge_142 (by decide) ?_
    refine s_icmp_ge F 165 dX8_bridge_144 (by decide) (fun _ => ?_) (fun _ => ?_)
    · refine s_aload_n F dX8_bridge_165 rfl 0 rfl ?_
      have hw_1 := wf_ref F.2.2.2.2.2.2.1 hq 5 4 (.inr (0, 100)) rfl
      refine s_getr F ciX8 5 4 (.inr (0, 100)) hq (by decide) rfl rfl m898 dX8_bridge_166 ?_
      refine s_iconst F (v := 0) dX8_bridge_169 (by decide) ?_
      refine s_iald F hw_1 dX8_bridge_170 ?_
      exact s_iret F dX8_bridge_171
    · refine s_aload_n F dX8_bridge_147 rfl 0 rfl ?_
      have hw_2 := wf_ref F.2.2.2.2.2.2.1 hq 5 4 (.inr (0, 100)) rfl
      refine s_getr F ciX8 5 4 (.inr (0, 100)) hq (by decide) rfl rfl m898 dX8_bridge_148 ?_
      refine s_iload_n F dX8_bridge_151 rfl 1 rfl ?_
      refine s_aload_n F dX8_bridge_152 rfl 0 rfl ?_
      have hw_3 := wf_ref F.2.2.2.2.2.2.1 hq 6 5 (.inr (0, 100)) rfl
      refine s_getr F ciX8 6 5 (.inr (0, 100)) hq (by decide) rfl rfl m899 dX8_bridge_153 ?_
      refine s_iload_n F dX8_bridge_156 rfl 1 rfl ?_
      refine s_iald F hw_3 dX8_bridge_157 ?_
      refine s_iast F hw_2 dX8_bridge_158 ?_
      refine s_letH (fun h_4 => ?_)
      refine s_iincv F dX8_bridge_159 1 rfl (by decide) (c := 1) (by decide) (fun v_5 => ?_)
      refine s_lv (lv' := [(1, .int v_5), (0, .ref (gad g q))]) rfl ?_
      refine s_goto F 141 dX8_bridge_162 (by decide) ?_
      exact s_sub [1, 0] rfl (ih v_5 h_4)
noncomputable def f_X8_bridge_106 (q : Nat) (h : AH) : Option (Int32 × AH) := if (h q 18) ≤ 0 then (gz 1 (lt (hset h q 7 1) (fun h_1 => lt (hset h_1 q 9 0) (fun h_2 => f_X8_bridge_141 q fu 0 h_2)))) else (lt (hset h q 12 (h q 18)) (fun h_3 => some (((-1000100) - (h_3 q 19)), h_3)))
set_option maxRecDepth 20000 in
set_option maxHeartbeats 4000000 in
theorem t_X8_bridge_106 {z : MC} {g : GC} {A : Nat → Prop} (F : Fx z cX8_bridge 2 RX8 (some .int) 6 g A) {q : Nat} (hq : (gL g)[q]? = some (.inl 8)) : ∀ (h : AH), Snd z 2 g A (QF z g A mkI) 106 [(0, .ref (gad g q))] [] h (f_X8_bridge_106 q  h) := by
  intro h
  unfold f_X8_bridge_106
  refine s_aload_n F dX8_bridge_106 rfl 0 rfl ?_
  refine s_geti F ciX8 18 hq (by decide) rfl rfl m911 dX8_bridge_107 ?_
  refine s_if_le F 129 dX8_bridge_110 (by decide) (fun _ => ?_) (fun _ => ?_)
  · refine s_aload_n F dX8_bridge_129 rfl 0 rfl ?_
    refine s_iconst F (v := 1) dX8_bridge_130 (by decide) ?_
    refine s_putZ F ciX8 (k := 7) hq (by decide) rfl rfl rfl rfl m900 dX8_bridge_131 ?_
    refine s_letH (fun h_1 => ?_)
    refine s_aload_n F dX8_bridge_134 rfl 0 rfl ?_
    refine s_iconst F (v := 0) dX8_bridge_135 (by decide) ?_
    refine s_put F ciX8 (k := 9) hq (by decide) rfl rfl rfl rfl m902 dX8_bridge_136 ?_
    refine s_letH (fun h_2 => ?_)
    refine s_iconst F (v := 0) dX8_bridge_139 (by decide) ?_
    refine s_istore_n F (lv' := [(1, .int 0), (0, .ref (gad g q))]) dX8_bridge_140 rfl (by decide) rfl ?_
    exact s_sub [1, 0] rfl (t_X8_bridge_141 F hq fu 0 h_2)
  · refine s_aload_n F dX8_bridge_113 rfl 0 rfl ?_
    refine s_aload_n F dX8_bridge_114 rfl 0 rfl ?_
    refine s_geti F ciX8 18 hq (by decide) rfl rfl m911 dX8_bridge_115 ?_
    refine s_put F ciX8 (k := 12) hq (by decide) rfl rfl rfl rfl m905 dX8_bridge_118 ?_
    refine s_letH (fun h_3 => ?_)
    refine s_ldc F (v := (-1000100)) dX8_bridge_121 m1108 ?_
    refine s_aload_n F dX8_bridge_123 rfl 0 rfl ?_
    refine s_geti F ciX8 19 hq (by decide) rfl rfl m912 dX8_bridge_124 ?_
    refine s_isub F dX8_bridge_127 ?_
    exact s_iret F dX8_bridge_128
noncomputable def f_X8_bridge_68 (q : Nat) : Nat → AH → Option (Int32 × AH)
  | 0, _ => none
  | n + 1, h => bd (f_X8_name q h) (fun v_2 h_1 => if (lg_cmp v_2 1651466612) = 0 then (bd (f_X8_readBoat q h_1) (fun _ h_5 => (f_X8_bridge_68 q n) h_5)) else (if (h_1 q 18) = 0 then (if (h_1 q 15) = 1 then (f_X8_bridge_106 q h_1) else (bd (f_X8_bad q 1 h_1) (fun _ h_3 => f_X8_bridge_106 q h_3))) else (f_X8_bridge_106 q h_1)))
set_option maxRecDepth 20000 in
set_option maxHeartbeats 4000000 in
theorem t_X8_bridge_68 {z : MC} {g : GC} {A : Nat → Prop} (F : Fx z cX8_bridge 2 RX8 (some .int) 6 g A) {q : Nat} (hq : (gL g)[q]? = some (.inl 8)) : ∀ (n : Nat) (h : AH), Snd z 2 g A (QF z g A mkI) 68 [(0, .ref (gad g q))] [] h (f_X8_bridge_68 q n  h) := by
  intro n
  induction n with
  | zero => intros; exact s_none
  | succ n ih =>
    intro h
    unfold f_X8_bridge_68
    refine s_aload_n F dX8_bridge_68 rfl 0 rfl ?_
    refine s_callVl (f := fun hh => f_X8_name q hh) (As := []) F yv_X8_name (ct_X8_name z.2.1 g hq) (by decide) m1061 hq rfl rfl rfl (Nat.le_of_ble_eq_true rfl) dX8_bridge_69 (fun v_2 h_1 e_v_2 => ?_)
    refine s_ldc2 F (v := 1651466612) dX8_bridge_72 m1095 ?_
    refine s_lcmp F dX8_bridge_75 ?_
    refine s_if_ne F 86 dX8_bridge_76 (by decide) (fun _ => ?_) (fun _ => ?_)
    · refine s_aload_n F dX8_bridge_86 rfl 0 rfl ?_
      refine s_geti F ciX8 18 hq (by decide) rfl rfl m911 dX8_bridge_87 ?_
      refine s_if_ne F 106 dX8_bridge_90 (by decide) (fun _ => ?_) (fun _ => ?_)
      · exact s_sub [0] rfl (t_X8_bridge_106 F hq h_1)
      · refine s_aload_n F dX8_bridge_93 rfl 0 rfl ?_
        refine s_geti F ciX8 15 hq (by decide) rfl rfl m908 dX8_bridge_94 ?_
        refine s_iconst F (v := 1) dX8_bridge_97 (by decide) ?_
        refine s_icmp_eq F 106 dX8_bridge_98 (by decide) (fun _ => ?_) (fun _ => ?_)
        · exact s_sub [0] rfl (t_X8_bridge_106 F hq h_1)
        · refine s_aload_n F dX8_bridge_101 rfl 0 rfl ?_
          refine s_iconst F (v := 1) dX8_bridge_102 (by decide) ?_
          refine s_callVu (f := fun hh => f_X8_bad q 1 hh) (As := [.int 1]) F yv_X8_bad (ct_X8_bad z.2.1 g hq 1) (by decide) m1070 hq rfl rfl rfl (Nat.le_of_ble_eq_true rfl) dX8_bridge_103 (fun _ h_3 e_v_4 => ?_)
          exact s_sub [0] rfl (t_X8_bridge_106 F hq h_3)
    · refine s_aload_n F dX8_bridge_79 rfl 0 rfl ?_
      refine s_callVu (f := fun hh => f_X8_readBoat q hh) (As := []) F yv_X8_readBoat (ct_X8_readBoat z.2.1 g hq) (by decide) m1096 hq rfl rfl rfl (Nat.le_of_ble_eq_true rfl) dX8_bridge_80 (fun _ h_5 e_v_6 => ?_)
      refine s_goto F 68 dX8_bridge_83 (by decide) ?_
      exact s_sub [0] rfl (ih h_5)
noncomputable def f_X8_bridge_50 (q : Nat) : Nat → AH → Option (Int32 × AH)
  | 0, _ => none
  | n + 1, h => bd (f_X8_name q h) (fun v_2 h_1 => if (lg_cmp v_2 1634886504) = 0 then (bd (f_X8_readArch q h_1) (fun _ h_3 => (f_X8_bridge_50 q n) h_3)) else (f_X8_bridge_68 q fu h_1))
set_option maxRecDepth 20000 in
set_option maxHeartbeats 4000000 in
theorem t_X8_bridge_50 {z : MC} {g : GC} {A : Nat → Prop} (F : Fx z cX8_bridge 2 RX8 (some .int) 6 g A) {q : Nat} (hq : (gL g)[q]? = some (.inl 8)) : ∀ (n : Nat) (h : AH), Snd z 2 g A (QF z g A mkI) 50 [(0, .ref (gad g q))] [] h (f_X8_bridge_50 q n  h) := by
  intro n
  induction n with
  | zero => intros; exact s_none
  | succ n ih =>
    intro h
    unfold f_X8_bridge_50
    refine s_aload_n F dX8_bridge_50 rfl 0 rfl ?_
    refine s_callVl (f := fun hh => f_X8_name q hh) (As := []) F yv_X8_name (ct_X8_name z.2.1 g hq) (by decide) m1061 hq rfl rfl rfl (Nat.le_of_ble_eq_true rfl) dX8_bridge_51 (fun v_2 h_1 e_v_2 => ?_)
    refine s_ldc2 F (v := 1634886504) dX8_bridge_54 m1086 ?_
    refine s_lcmp F dX8_bridge_57 ?_
    refine s_if_ne F 68 dX8_bridge_58 (by decide) (fun _ => ?_) (fun _ => ?_)
    · exact s_sub [0] rfl (t_X8_bridge_68 F hq fu h_1)
    · refine s_aload_n F dX8_bridge_61 rfl 0 rfl ?_
      refine s_callVu (f := fun hh => f_X8_readArch q hh) (As := []) F yv_X8_readArch (ct_X8_readArch z.2.1 g hq) (by decide) m1087 hq rfl rfl rfl (Nat.le_of_ble_eq_true rfl) dX8_bridge_62 (fun _ h_3 e_v_4 => ?_)
      refine s_goto F 50 dX8_bridge_65 (by decide) ?_
      exact s_sub [0] rfl (ih h_3)
noncomputable def f_X8_bridge_11 (q : Nat) : Nat → Int32 → AH → Option (Int32 × AH)
  | 0, _, _ => none
  | n + 1, x1, h => if (100 : Int32) ≤ x1 then (bd (f_X8_readTide q h) (fun _ h_1 => bd (f_X8_name q h_1) (fun v_4 h_3 => if (lg_cmp v_4 1634886504) = 0 then (f_X8_bridge_50 q fu h_3) else (bd (f_X8_bad q 1 h_3) (fun _ h_5 => f_X8_bridge_50 q fu h_5))))) else (ck x1 100 (lt (hset h (q + 5) (x1 : Int32).toNatClampNeg 0) (fun h_8 => lt (x1 + 1) (fun v_9 => (f_X8_bridge_11 q n) v_9 h_8))))
set_option maxRecDepth 20000 in
set_option maxHeartbeats 4000000 in
theorem t_X8_bridge_11 {z : MC} {g : GC} {A : Nat → Prop} (F : Fx z cX8_bridge 2 RX8 (some .int) 6 g A) {q : Nat} (hq : (gL g)[q]? = some (.inl 8)) : ∀ (n : Nat) (x1 : Int32) (h : AH), Snd z 2 g A (QF z g A mkI) 11 [(0, .ref (gad g q)), (1, .int x1)] [] h (f_X8_bridge_11 q n x1 h) := by
  intro n
  induction n with
  | zero => intros; exact s_none
  | succ n ih =>
    intro x1 h
    unfold f_X8_bridge_11
    refine s_iload_n F dX8_bridge_11 rfl 1 rfl ?_
    refine s_bipush F (v := 100) dX8_bridge_12 (by decide) ?_
    refine s_icmp_ge F 30 dX8_bridge_14 (by decide) (fun _ => ?_) (fun _ => ?_)
    · refine s_aload_n F dX8_bridge_30 rfl 0 rfl ?_
      refine s_callVu (f := fun hh => f_X8_readTide q hh) (As := []) F yv_X8_readTide (ct_X8_readTide z.2.1 g hq) (by decide) m1057 hq rfl rfl rfl (Nat.le_of_ble_eq_true rfl) dX8_bridge_31 (fun _ h_1 e_v_2 => ?_)
      refine s_aload_n F dX8_bridge_34 rfl 0 rfl ?_
      refine s_callVl (f := fun hh => f_X8_name q hh) (As := []) F yv_X8_name (ct_X8_name z.2.1 g hq) (by decide) m1061 hq rfl rfl rfl (Nat.le_of_ble_eq_true rfl) dX8_bridge_35 (fun v_4 h_3 e_v_4 => ?_)
      refine s_ldc2 F (v := 1634886504) dX8_bridge_38 m1086 ?_
      refine s_lcmp F dX8_bridge_41 ?_
      refine s_if_eq F 50 dX8_bridge_42 (by decide) (fun _ => ?_) (fun _ => ?_)
      · exact s_sub [0] rfl (t_X8_bridge_50 F hq fu h_3)
      · refine s_aload_n F dX8_bridge_45 rfl 0 rfl ?_
        refine s_iconst F (v := 1) dX8_bridge_46 (by decide) ?_
        refine s_callVu (f := fun hh => f_X8_bad q 1 hh) (As := [.int 1]) F yv_X8_bad (ct_X8_bad z.2.1 g hq 1) (by decide) m1070 hq rfl rfl rfl (Nat.le_of_ble_eq_true rfl) dX8_bridge_47 (fun _ h_5 e_v_6 => ?_)
        exact s_sub [0] rfl (t_X8_bridge_50 F hq fu h_5)
    · refine s_aload_n F dX8_bridge_17 rfl 0 rfl ?_
      have hw_7 := wf_ref F.2.2.2.2.2.2.1 hq 6 5 (.inr (0, 100)) rfl
      refine s_getr F ciX8 6 5 (.inr (0, 100)) hq (by decide) rfl rfl m899 dX8_bridge_18 ?_
      refine s_iload_n F dX8_bridge_21 rfl 1 rfl ?_
      refine s_iconst F (v := 0) dX8_bridge_22 (by decide) ?_
      refine s_iast F hw_7 dX8_bridge_23 ?_
      refine s_letH (fun h_8 => ?_)
      refine s_iincv F dX8_bridge_24 1 rfl (by decide) (c := 1) (by decide) (fun v_9 => ?_)
      refine s_lv (lv' := [(1, .int v_9), (0, .ref (gad g q))]) rfl ?_
      refine s_goto F 11 dX8_bridge_27 (by decide) ?_
      exact s_sub [1, 0] rfl (ih v_9 h_8)
noncomputable def f_X8_bridge (q : Nat) (h : AH) : Option (Int32 × AH) := lt (hset h q 0 0) (fun h_1 => bd (f_X8_begin q h_1) (fun _ h_2 => f_X8_bridge_11 q fu 0 h_2))
set_option maxRecDepth 20000 in
set_option maxHeartbeats 4000000 in
theorem ct_X8_bridge (l : Launch) (g : GC) {q : Nat} (hq : (gL g)[q]? = some (.inl 8)) : Ct l yX8_bridge cX8_bridge 2 (some .int) 6 [.ref (gad g q)] g mkI (fun h => f_X8_bridge q h) := by
  refine Ct.of (by decide +kernel) (Nat.le_of_ble_eq_true rfl) (fun z A h _ F => ?_)
  show Snd z 2 g A (QF z g A mkI) 0 [(0, .ref (gad g q))] [] h (f_X8_bridge q h)
  unfold f_X8_bridge
  refine s_aload_n F dX8_bridge_0 rfl 0 rfl ?_
  refine s_iconst F (v := 0) dX8_bridge_1 (by decide) ?_
  refine s_put F ciX8 (k := 0) hq (by decide) rfl rfl rfl rfl m893 dX8_bridge_2 ?_
  refine s_letH (fun h_1 => ?_)
  refine s_aload_n F dX8_bridge_5 rfl 0 rfl ?_
  refine s_callVu (f := fun hh => f_X8_begin q hh) (As := []) F yv_X8_begin (ct_X8_begin z.2.1 g hq) (by decide) m1038 hq rfl rfl rfl (Nat.le_of_ble_eq_true rfl) dX8_bridge_6 (fun _ h_2 e_v_3 => ?_)
  refine s_iconst F (v := 0) dX8_bridge_9 (by decide) ?_
  refine s_istore_n F (lv' := [(1, .int 0), (0, .ref (gad g q))]) dX8_bridge_10 rfl (by decide) rfl ?_
  exact s_sub [1, 0] rfl (t_X8_bridge_11 F hq fu 0 h_2)
theorem dX8_fault_0 : decode cX8_fault 0 = .ok (.aload_n 0, 1) := by decide +kernel
theorem dX8_fault_1 : decode cX8_fault 1 = .ok (.iconst 0, 1) := by decide +kernel
theorem dX8_fault_2 : decode cX8_fault 2 = .ok (.putfield 65, 3) := by decide +kernel
theorem dX8_fault_5 : decode cX8_fault 5 = .ok (.aload_n 0, 1) := by decide +kernel
theorem dX8_fault_6 : decode cX8_fault 6 = .ok (.getfield 191, 3) := by decide +kernel
theorem dX8_fault_9 : decode cX8_fault 9 = .ok (.ireturn, 1) := by decide +kernel
theorem yv_X8_fault : YV yX8_fault cX8_fault 1 (some .int) 0 := ⟨m1110, m1111, m9, m1112, ⟨by decide +kernel, by decide +kernel, by decide +kernel⟩, by decide⟩
noncomputable def f_X8_fault (q : Nat) (h : AH) : Option (Int32 × AH) := lt (hset h q 0 0) (fun h_1 => some (h_1 q 12, h_1))
set_option maxRecDepth 20000 in
set_option maxHeartbeats 4000000 in
theorem ct_X8_fault (l : Launch) (g : GC) {q : Nat} (hq : (gL g)[q]? = some (.inl 8)) : Ct l yX8_fault cX8_fault 1 (some .int) 1 [.ref (gad g q)] g mkI (fun h => f_X8_fault q h) := by
  refine Ct.of (by decide +kernel) (Nat.le_of_ble_eq_true rfl) (fun z A h _ F => ?_)
  show Snd z 1 g A (QF z g A mkI) 0 [(0, .ref (gad g q))] [] h (f_X8_fault q h)
  unfold f_X8_fault
  refine s_aload_n F dX8_fault_0 rfl 0 rfl ?_
  refine s_iconst F (v := 0) dX8_fault_1 (by decide) ?_
  refine s_put F ciX8 (k := 0) hq (by decide) rfl rfl rfl rfl m893 dX8_fault_2 ?_
  refine s_letH (fun h_1 => ?_)
  refine s_aload_n F dX8_fault_5 rfl 0 rfl ?_
  refine s_geti F ciX8 12 hq (by decide) rfl rfl m905 dX8_fault_6 ?_
  exact s_iret F dX8_fault_9
