theorem dX8_image_0 : decode cX8_image 0 = .ok (.aload_n 0, 1) := by decide +kernel
theorem dX8_image_1 : decode cX8_image 1 = .ok (.iconst 0, 1) := by decide +kernel
theorem dX8_image_2 : decode cX8_image 2 = .ok (.putfield 65, 3) := by decide +kernel
theorem dX8_image_5 : decode cX8_image 5 = .ok (.iload_n 1, 1) := by decide +kernel
theorem dX8_image_6 : decode cX8_image 6 = .ok (.i2l, 1) := by decide +kernel
theorem dX8_image_7 : decode cX8_image 7 = .ok (.lconst 0, 1) := by decide +kernel
theorem dX8_image_8 : decode cX8_image 8 = .ok (.lconst 1, 1) := by decide +kernel
theorem dX8_image_9 : decode cX8_image 9 = .ok (.invokestatic 75, 3) := by decide +kernel
theorem dX8_image_12 : decode cX8_image 12 = .ok (.ifCond .ne 6, 3) := by decide +kernel
theorem dX8_image_15 : decode cX8_image 15 = .ok (.ldc 85, 2) := by decide +kernel
theorem dX8_image_17 : decode cX8_image 17 = .ok (.ireturn, 1) := by decide +kernel
theorem dX8_image_18 : decode cX8_image 18 = .ok (.aload_n 0, 1) := by decide +kernel
theorem dX8_image_19 : decode cX8_image 19 = .ok (.getfield 195, 3) := by decide +kernel
theorem dX8_image_22 : decode cX8_image 22 = .ok (.ifCond .ne 6, 3) := by decide +kernel
theorem dX8_image_25 : decode cX8_image 25 = .ok (.ldc 244, 2) := by decide +kernel
theorem dX8_image_27 : decode cX8_image 27 = .ok (.ireturn, 1) := by decide +kernel
theorem dX8_image_28 : decode cX8_image 28 = .ok (.iconst 0, 1) := by decide +kernel
theorem dX8_image_29 : decode cX8_image 29 = .ok (.istore_n 2, 1) := by decide +kernel
theorem dX8_image_30 : decode cX8_image 30 = .ok (.iload_n 2, 1) := by decide +kernel
theorem dX8_image_31 : decode cX8_image 31 = .ok (.bipush 100, 2) := by decide +kernel
theorem dX8_image_33 : decode cX8_image 33 = .ok (.if_icmp .ge 26, 3) := by decide +kernel
theorem dX8_image_36 : decode cX8_image 36 = .ok (.aload_n 0, 1) := by decide +kernel
theorem dX8_image_37 : decode cX8_image 37 = .ok (.getfield 59, 3) := by decide +kernel
theorem dX8_image_40 : decode cX8_image 40 = .ok (.bipush 100, 2) := by decide +kernel
theorem dX8_image_42 : decode cX8_image 42 = .ok (.iload_n 1, 1) := by decide +kernel
theorem dX8_image_43 : decode cX8_image 43 = .ok (.imul, 1) := by decide +kernel
theorem dX8_image_44 : decode cX8_image 44 = .ok (.iload_n 2, 1) := by decide +kernel
theorem dX8_image_45 : decode cX8_image 45 = .ok (.iadd, 1) := by decide +kernel
theorem dX8_image_46 : decode cX8_image 46 = .ok (.aload_n 0, 1) := by decide +kernel
theorem dX8_image_47 : decode cX8_image 47 = .ok (.getfield 19, 3) := by decide +kernel
theorem dX8_image_50 : decode cX8_image 50 = .ok (.iload_n 2, 1) := by decide +kernel
theorem dX8_image_51 : decode cX8_image 51 = .ok (.iaload, 1) := by decide +kernel
theorem dX8_image_52 : decode cX8_image 52 = .ok (.iastore, 1) := by decide +kernel
theorem dX8_image_53 : decode cX8_image 53 = .ok (.iinc 2 1, 3) := by decide +kernel
theorem dX8_image_56 : decode cX8_image 56 = .ok (.goto (-26), 3) := by decide +kernel
theorem dX8_image_59 : decode cX8_image 59 = .ok (.aload_n 0, 1) := by decide +kernel
theorem dX8_image_60 : decode cX8_image 60 = .ok (.getfield 56, 3) := by decide +kernel
theorem dX8_image_63 : decode cX8_image 63 = .ok (.iload_n 1, 1) := by decide +kernel
theorem dX8_image_64 : decode cX8_image 64 = .ok (.iconst 1, 1) := by decide +kernel
theorem dX8_image_65 : decode cX8_image 65 = .ok (.bastore, 1) := by decide +kernel
theorem dX8_image_66 : decode cX8_image 66 = .ok (.iconst 1, 1) := by decide +kernel
theorem dX8_image_67 : decode cX8_image 67 = .ok (.ireturn, 1) := by decide +kernel
theorem yv_X8_image : YV yX8_image cX8_image 3 (some .int) 1 := ⟨m1281, m1282, m9, m1283, ⟨by decide +kernel, by decide +kernel, by decide +kernel⟩, by decide⟩
noncomputable def f_X8_image_30 (q : Nat) : Nat → Int32 → Int32 → AH → Option (Int32 × AH)
  | 0, _, _, _ => none
  | n + 1, x1, x2, h => if (100 : Int32) ≤ x2 then (ck x1 2 (lt (hset h (q + 16) (x1 : Int32).toNatClampNeg (vp_nar .boolean 1)) (fun h_2 => some (1, h_2)))) else (ck x2 100 (lt (((100 * x1) + x2)) (fun v_5 => ck v_5 200 (lt (hset h (q + 17) (v_5 : Int32).toNatClampNeg (h (q + 4) (x2 : Int32).toNatClampNeg)) (fun h_6 => lt (x2 + 1) (fun v_7 => (f_X8_image_30 q n) x1 v_7 h_6))))))
set_option maxRecDepth 20000 in
set_option maxHeartbeats 4000000 in
theorem t_X8_image_30 {z : MC} {g : GC} {A : Nat → Prop} (F : Fx z cX8_image 3 RX8 (some .int) 2 g A) {q : Nat} (hq : (gL g)[q]? = some (.inl 8)) : ∀ (n : Nat) (x1 : Int32) (x2 : Int32) (h : AH), Snd z 3 g A (QF z g A mkI) 30 [(0, .ref (gad g q)), (1, .int x1), (2, .int x2)] [] h (f_X8_image_30 q n x1 x2 h) := by
  intro n
  induction n with
  | zero => intros; exact s_none
  | succ n ih =>
    intro x1 x2 h
    unfold f_X8_image_30
    refine s_iload_n F dX8_image_30 rfl 2 rfl ?_
    refine s_bipush F (v := 100) dX8_image_31 (by decide) ?_
    refine s_icmp_ge F 59 dX8_image_33 (by decide) (fun _ => ?_) (fun _ => ?_)
    · refine s_aload_n F dX8_image_59 rfl 0 rfl ?_
      have hw_1 := wf_ref F.2.2.2.2.2.2.1 hq 30 16 (.inr (2, 2)) rfl
      refine s_getr F ciX8 30 16 (.inr (2, 2)) hq (by decide) rfl rfl m923 dX8_image_60 ?_
      refine s_iload_n F dX8_image_63 rfl 1 rfl ?_
      refine s_iconst F (v := 1) dX8_image_64 (by decide) ?_
      refine s_zast F hw_1 dX8_image_65 ?_
      refine s_letH (fun h_2 => ?_)
      refine s_iconst F (v := 1) dX8_image_66 (by decide) ?_
      exact s_iret F dX8_image_67
    · refine s_aload_n F dX8_image_36 rfl 0 rfl ?_
      have hw_3 := wf_ref F.2.2.2.2.2.2.1 hq 31 17 (.inr (0, 200)) rfl
      refine s_getr F ciX8 31 17 (.inr (0, 200)) hq (by decide) rfl rfl m924 dX8_image_37 ?_
      refine s_bipush F (v := 100) dX8_image_40 (by decide) ?_
      refine s_iload_n F dX8_image_42 rfl 1 rfl ?_
      refine s_imul F dX8_image_43 ?_
      refine s_iload_n F dX8_image_44 rfl 2 rfl ?_
      refine s_iadd F dX8_image_45 ?_
      refine s_aload_n F dX8_image_46 rfl 0 rfl ?_
      have hw_4 := wf_ref F.2.2.2.2.2.2.1 hq 5 4 (.inr (0, 100)) rfl
      refine s_getr F ciX8 5 4 (.inr (0, 100)) hq (by decide) rfl rfl m898 dX8_image_47 ?_
      refine s_iload_n F dX8_image_50 rfl 2 rfl ?_
      refine s_iald F hw_4 dX8_image_51 ?_
      refine s_leti2 (fun v_5 => ?_)
      refine s_iast F hw_3 dX8_image_52 ?_
      refine s_letH (fun h_6 => ?_)
      refine s_iincv F dX8_image_53 2 rfl (by decide) (c := 1) (by decide) (fun v_7 => ?_)
      refine s_lv (lv' := [(2, .int v_7), (0, .ref (gad g q)), (1, .int x1)]) rfl ?_
      refine s_goto F 30 dX8_image_56 (by decide) ?_
      exact s_sub [1, 2, 0] rfl (ih x1 v_7 h_6)
noncomputable def f_X8_image (q : Nat) (x1 : Int32) (h : AH) : Option (Int32 × AH) := lt (hset h q 0 0) (fun h_1 => bd (f_X8_in ((x1 : Int32).toInt64) 0 1 h_1) (fun v_3 h_2 => if v_3 = 0 then (some ((-1000001), h_2)) else (if (h_2 q 7) = 0 then (some ((-1000002), h_2)) else (f_X8_image_30 q fu x1 0 h_2))))
set_option maxRecDepth 20000 in
set_option maxHeartbeats 4000000 in
theorem ct_X8_image (l : Launch) (g : GC) {q : Nat} (hq : (gL g)[q]? = some (.inl 8)) (x1 : Int32) : Ct l yX8_image cX8_image 3 (some .int) 2 [.ref (gad g q), .int x1] g mkI (fun h => f_X8_image q x1 h) := by
  refine Ct.of (by decide +kernel) (Nat.le_of_ble_eq_true rfl) (fun z A h _ F => ?_)
  show Snd z 3 g A (QF z g A mkI) 0 [(0, .ref (gad g q)), (1, .int x1)] [] h (f_X8_image q x1 h)
  unfold f_X8_image
  refine s_aload_n F dX8_image_0 rfl 0 rfl ?_
  refine s_iconst F (v := 0) dX8_image_1 (by decide) ?_
  refine s_put F ciX8 (k := 0) hq (by decide) rfl rfl rfl rfl m893 dX8_image_2 ?_
  refine s_letH (fun h_1 => ?_)
  refine s_iload_n F dX8_image_5 rfl 1 rfl ?_
  refine s_i2l F dX8_image_6 ?_
  refine s_lconst F (v := 0) dX8_image_7 (by decide) ?_
  refine s_lconst F (v := 1) dX8_image_8 (by decide) ?_
  refine s_callSi (f := fun hh => f_X8_in ((x1 : Int32).toInt64) 0 1 hh) (As := [.long ((x1 : Int32).toInt64), .long 0, .long 1]) F ys_X8_in (ct_X8_in z.2.1 g ((x1 : Int32).toInt64) 0 1) (by decide) m1005 rfl rfl (Nat.le_of_ble_eq_true rfl) dX8_image_9 (fun v_3 h_2 e_v_3 => ?_)
  refine s_if_ne F 18 dX8_image_12 (by decide) (fun _ => ?_) (fun _ => ?_)
  · refine s_aload_n F dX8_image_18 rfl 0 rfl ?_
    refine s_geti F ciX8 7 hq (by decide) rfl rfl m900 dX8_image_19 ?_
    refine s_if_ne F 28 dX8_image_22 (by decide) (fun _ => ?_) (fun _ => ?_)
    · refine s_iconst F (v := 0) dX8_image_28 (by decide) ?_
      refine s_istore_n F (lv' := [(2, .int 0), (0, .ref (gad g q)), (1, .int x1)]) dX8_image_29 rfl (by decide) rfl ?_
      exact s_sub [1, 2, 0] rfl (t_X8_image_30 F hq fu x1 0 h_2)
    · refine s_ldc F (v := (-1000002)) dX8_image_25 m1169 ?_
      exact s_iret F dX8_image_27
  · refine s_ldc F (v := (-1000001)) dX8_image_15 m1009 ?_
    exact s_iret F dX8_image_17
theorem dX8_restore_0 : decode cX8_restore 0 = .ok (.aload_n 0, 1) := by decide +kernel
theorem dX8_restore_1 : decode cX8_restore 1 = .ok (.iconst 0, 1) := by decide +kernel
theorem dX8_restore_2 : decode cX8_restore 2 = .ok (.putfield 65, 3) := by decide +kernel
theorem dX8_restore_5 : decode cX8_restore 5 = .ok (.iload_n 1, 1) := by decide +kernel
theorem dX8_restore_6 : decode cX8_restore 6 = .ok (.i2l, 1) := by decide +kernel
theorem dX8_restore_7 : decode cX8_restore 7 = .ok (.lconst 0, 1) := by decide +kernel
theorem dX8_restore_8 : decode cX8_restore 8 = .ok (.lconst 1, 1) := by decide +kernel
theorem dX8_restore_9 : decode cX8_restore 9 = .ok (.invokestatic 75, 3) := by decide +kernel
theorem dX8_restore_12 : decode cX8_restore 12 = .ok (.ifCond .ne 6, 3) := by decide +kernel
theorem dX8_restore_15 : decode cX8_restore 15 = .ok (.ldc 85, 2) := by decide +kernel
theorem dX8_restore_17 : decode cX8_restore 17 = .ok (.ireturn, 1) := by decide +kernel
theorem dX8_restore_18 : decode cX8_restore 18 = .ok (.aload_n 0, 1) := by decide +kernel
theorem dX8_restore_19 : decode cX8_restore 19 = .ok (.getfield 56, 3) := by decide +kernel
theorem dX8_restore_22 : decode cX8_restore 22 = .ok (.iload_n 1, 1) := by decide +kernel
theorem dX8_restore_23 : decode cX8_restore 23 = .ok (.baload, 1) := by decide +kernel
theorem dX8_restore_24 : decode cX8_restore 24 = .ok (.ifCond .ne 6, 3) := by decide +kernel
theorem dX8_restore_27 : decode cX8_restore 27 = .ok (.ldc 244, 2) := by decide +kernel
theorem dX8_restore_29 : decode cX8_restore 29 = .ok (.ireturn, 1) := by decide +kernel
theorem dX8_restore_30 : decode cX8_restore 30 = .ok (.iconst 0, 1) := by decide +kernel
theorem dX8_restore_31 : decode cX8_restore 31 = .ok (.istore_n 2, 1) := by decide +kernel
theorem dX8_restore_32 : decode cX8_restore 32 = .ok (.iload_n 2, 1) := by decide +kernel
theorem dX8_restore_33 : decode cX8_restore 33 = .ok (.bipush 100, 2) := by decide +kernel
theorem dX8_restore_35 : decode cX8_restore 35 = .ok (.if_icmp .ge 26, 3) := by decide +kernel
theorem dX8_restore_38 : decode cX8_restore 38 = .ok (.aload_n 0, 1) := by decide +kernel
theorem dX8_restore_39 : decode cX8_restore 39 = .ok (.getfield 19, 3) := by decide +kernel
theorem dX8_restore_42 : decode cX8_restore 42 = .ok (.iload_n 2, 1) := by decide +kernel
theorem dX8_restore_43 : decode cX8_restore 43 = .ok (.aload_n 0, 1) := by decide +kernel
theorem dX8_restore_44 : decode cX8_restore 44 = .ok (.getfield 59, 3) := by decide +kernel
theorem dX8_restore_47 : decode cX8_restore 47 = .ok (.bipush 100, 2) := by decide +kernel
theorem dX8_restore_49 : decode cX8_restore 49 = .ok (.iload_n 1, 1) := by decide +kernel
theorem dX8_restore_50 : decode cX8_restore 50 = .ok (.imul, 1) := by decide +kernel
theorem dX8_restore_51 : decode cX8_restore 51 = .ok (.iload_n 2, 1) := by decide +kernel
theorem dX8_restore_52 : decode cX8_restore 52 = .ok (.iadd, 1) := by decide +kernel
theorem dX8_restore_53 : decode cX8_restore 53 = .ok (.iaload, 1) := by decide +kernel
theorem dX8_restore_54 : decode cX8_restore 54 = .ok (.iastore, 1) := by decide +kernel
theorem dX8_restore_55 : decode cX8_restore 55 = .ok (.iinc 2 1, 3) := by decide +kernel
theorem dX8_restore_58 : decode cX8_restore 58 = .ok (.goto (-26), 3) := by decide +kernel
theorem dX8_restore_61 : decode cX8_restore 61 = .ok (.aload_n 0, 1) := by decide +kernel
theorem dX8_restore_62 : decode cX8_restore 62 = .ok (.iconst 0, 1) := by decide +kernel
theorem dX8_restore_63 : decode cX8_restore 63 = .ok (.putfield 199, 3) := by decide +kernel
theorem dX8_restore_66 : decode cX8_restore 66 = .ok (.iconst 1, 1) := by decide +kernel
theorem dX8_restore_67 : decode cX8_restore 67 = .ok (.ireturn, 1) := by decide +kernel
theorem yv_X8_restore : YV yX8_restore cX8_restore 3 (some .int) 1 := ⟨m1285, m1286, m9, m1287, ⟨by decide +kernel, by decide +kernel, by decide +kernel⟩, by decide⟩
noncomputable def f_X8_restore_32 (q : Nat) : Nat → Int32 → Int32 → AH → Option (Int32 × AH)
  | 0, _, _, _ => none
  | n + 1, x1, x2, h => if (100 : Int32) ≤ x2 then (lt (hset h q 9 0) (fun h_1 => some (1, h_1))) else (lt (((100 * x1) + x2)) (fun v_4 => ck v_4 200 (ck x2 100 (lt (hset h (q + 4) (x2 : Int32).toNatClampNeg (h (q + 17) (v_4 : Int32).toNatClampNeg)) (fun h_5 => lt (x2 + 1) (fun v_6 => (f_X8_restore_32 q n) x1 v_6 h_5))))))
set_option maxRecDepth 20000 in
set_option maxHeartbeats 4000000 in
theorem t_X8_restore_32 {z : MC} {g : GC} {A : Nat → Prop} (F : Fx z cX8_restore 3 RX8 (some .int) 2 g A) {q : Nat} (hq : (gL g)[q]? = some (.inl 8)) : ∀ (n : Nat) (x1 : Int32) (x2 : Int32) (h : AH), Snd z 3 g A (QF z g A mkI) 32 [(0, .ref (gad g q)), (1, .int x1), (2, .int x2)] [] h (f_X8_restore_32 q n x1 x2 h) := by
  intro n
  induction n with
  | zero => intros; exact s_none
  | succ n ih =>
    intro x1 x2 h
    unfold f_X8_restore_32
    refine s_iload_n F dX8_restore_32 rfl 2 rfl ?_
    refine s_bipush F (v := 100) dX8_restore_33 (by decide) ?_
    refine s_icmp_ge F 61 dX8_restore_35 (by decide) (fun _ => ?_) (fun _ => ?_)
    · refine s_aload_n F dX8_restore_61 rfl 0 rfl ?_
      refine s_iconst F (v := 0) dX8_restore_62 (by decide) ?_
      refine s_put F ciX8 (k := 9) hq (by decide) rfl rfl rfl rfl m902 dX8_restore_63 ?_
      refine s_letH (fun h_1 => ?_)
      refine s_iconst F (v := 1) dX8_restore_66 (by decide) ?_
      exact s_iret F dX8_restore_67
    · refine s_aload_n F dX8_restore_38 rfl 0 rfl ?_
      have hw_2 := wf_ref F.2.2.2.2.2.2.1 hq 5 4 (.inr (0, 100)) rfl
      refine s_getr F ciX8 5 4 (.inr (0, 100)) hq (by decide) rfl rfl m898 dX8_restore_39 ?_
      refine s_iload_n F dX8_restore_42 rfl 2 rfl ?_
      refine s_aload_n F dX8_restore_43 rfl 0 rfl ?_
      have hw_3 := wf_ref F.2.2.2.2.2.2.1 hq 31 17 (.inr (0, 200)) rfl
      refine s_getr F ciX8 31 17 (.inr (0, 200)) hq (by decide) rfl rfl m924 dX8_restore_44 ?_
      refine s_bipush F (v := 100) dX8_restore_47 (by decide) ?_
      refine s_iload_n F dX8_restore_49 rfl 1 rfl ?_
      refine s_imul F dX8_restore_50 ?_
      refine s_iload_n F dX8_restore_51 rfl 2 rfl ?_
      refine s_iadd F dX8_restore_52 ?_
      refine s_leti (fun v_4 => ?_)
      refine s_iald F hw_3 dX8_restore_53 ?_
      refine s_iast F hw_2 dX8_restore_54 ?_
      refine s_letH (fun h_5 => ?_)
      refine s_iincv F dX8_restore_55 2 rfl (by decide) (c := 1) (by decide) (fun v_6 => ?_)
      refine s_lv (lv' := [(2, .int v_6), (0, .ref (gad g q)), (1, .int x1)]) rfl ?_
      refine s_goto F 32 dX8_restore_58 (by decide) ?_
      exact s_sub [1, 2, 0] rfl (ih x1 v_6 h_5)
noncomputable def f_X8_restore (q : Nat) (x1 : Int32) (h : AH) : Option (Int32 × AH) := lt (hset h q 0 0) (fun h_1 => bd (f_X8_in ((x1 : Int32).toInt64) 0 1 h_1) (fun v_3 h_2 => if v_3 = 0 then (some ((-1000001), h_2)) else (ck x1 2 (if (h_2 (q + 16) (x1 : Int32).toNatClampNeg) = 0 then (some ((-1000002), h_2)) else (f_X8_restore_32 q fu x1 0 h_2)))))
set_option maxRecDepth 20000 in
set_option maxHeartbeats 4000000 in
theorem ct_X8_restore (l : Launch) (g : GC) {q : Nat} (hq : (gL g)[q]? = some (.inl 8)) (x1 : Int32) : Ct l yX8_restore cX8_restore 3 (some .int) 2 [.ref (gad g q), .int x1] g mkI (fun h => f_X8_restore q x1 h) := by
  refine Ct.of (by decide +kernel) (Nat.le_of_ble_eq_true rfl) (fun z A h _ F => ?_)
  show Snd z 3 g A (QF z g A mkI) 0 [(0, .ref (gad g q)), (1, .int x1)] [] h (f_X8_restore q x1 h)
  unfold f_X8_restore
  refine s_aload_n F dX8_restore_0 rfl 0 rfl ?_
  refine s_iconst F (v := 0) dX8_restore_1 (by decide) ?_
  refine s_put F ciX8 (k := 0) hq (by decide) rfl rfl rfl rfl m893 dX8_restore_2 ?_
  refine s_letH (fun h_1 => ?_)
  refine s_iload_n F dX8_restore_5 rfl 1 rfl ?_
  refine s_i2l F dX8_restore_6 ?_
  refine s_lconst F (v := 0) dX8_restore_7 (by decide) ?_
  refine s_lconst F (v := 1) dX8_restore_8 (by decide) ?_
  refine s_callSi (f := fun hh => f_X8_in ((x1 : Int32).toInt64) 0 1 hh) (As := [.long ((x1 : Int32).toInt64), .long 0, .long 1]) F ys_X8_in (ct_X8_in z.2.1 g ((x1 : Int32).toInt64) 0 1) (by decide) m1005 rfl rfl (Nat.le_of_ble_eq_true rfl) dX8_restore_9 (fun v_3 h_2 e_v_3 => ?_)
  refine s_if_ne F 18 dX8_restore_12 (by decide) (fun _ => ?_) (fun _ => ?_)
  · refine s_aload_n F dX8_restore_18 rfl 0 rfl ?_
    have hw_4 := wf_ref F.2.2.2.2.2.2.1 hq 30 16 (.inr (2, 2)) rfl
    refine s_getr F ciX8 30 16 (.inr (2, 2)) hq (by decide) rfl rfl m923 dX8_restore_19 ?_
    refine s_iload_n F dX8_restore_22 rfl 1 rfl ?_
    refine s_zald F hw_4 dX8_restore_23 ?_
    refine s_if_ne F 30 dX8_restore_24 (by decide) (fun _ => ?_) (fun _ => ?_)
    · refine s_iconst F (v := 0) dX8_restore_30 (by decide) ?_
      refine s_istore_n F (lv' := [(2, .int 0), (0, .ref (gad g q)), (1, .int x1)]) dX8_restore_31 rfl (by decide) rfl ?_
      exact s_sub [1, 2, 0] rfl (t_X8_restore_32 F hq fu x1 0 h_2)
    · refine s_ldc F (v := (-1000002)) dX8_restore_27 m1169 ?_
      exact s_iret F dX8_restore_29
  · refine s_ldc F (v := (-1000001)) dX8_restore_15 m1009 ?_
    exact s_iret F dX8_restore_17
theorem dX8_isOf_0 : decode cX8_isOf 0 = .ok (.iload_n 1, 1) := by decide +kernel
theorem dX8_isOf_1 : decode cX8_isOf 1 = .ok (.ifCond .eq 28, 3) := by decide +kernel
theorem dX8_isOf_4 : decode cX8_isOf 4 = .ok (.iload_n 0, 1) := by decide +kernel
theorem dX8_isOf_5 : decode cX8_isOf 5 = .ok (.iload_n 1, 1) := by decide +kernel
theorem dX8_isOf_6 : decode cX8_isOf 6 = .ok (.if_icmp .eq 23, 3) := by decide +kernel
theorem dX8_isOf_9 : decode cX8_isOf 9 = .ok (.iload_n 1, 1) := by decide +kernel
theorem dX8_isOf_10 : decode cX8_isOf 10 = .ok (.iconst 1, 1) := by decide +kernel
theorem dX8_isOf_11 : decode cX8_isOf 11 = .ok (.if_icmp .ne 8, 3) := by decide +kernel
theorem dX8_isOf_14 : decode cX8_isOf 14 = .ok (.iload_n 0, 1) := by decide +kernel
theorem dX8_isOf_15 : decode cX8_isOf 15 = .ok (.iconst 4, 1) := by decide +kernel
theorem dX8_isOf_16 : decode cX8_isOf 16 = .ok (.if_icmp .lt 13, 3) := by decide +kernel
theorem dX8_isOf_19 : decode cX8_isOf 19 = .ok (.iload_n 1, 1) := by decide +kernel
theorem dX8_isOf_20 : decode cX8_isOf 20 = .ok (.iconst 4, 1) := by decide +kernel
theorem dX8_isOf_21 : decode cX8_isOf 21 = .ok (.if_icmp .ne 12, 3) := by decide +kernel
theorem dX8_isOf_24 : decode cX8_isOf 24 = .ok (.iload_n 0, 1) := by decide +kernel
theorem dX8_isOf_25 : decode cX8_isOf 25 = .ok (.iconst 5, 1) := by decide +kernel
theorem dX8_isOf_26 : decode cX8_isOf 26 = .ok (.if_icmp .ne 7, 3) := by decide +kernel
theorem dX8_isOf_29 : decode cX8_isOf 29 = .ok (.iconst 1, 1) := by decide +kernel
theorem dX8_isOf_30 : decode cX8_isOf 30 = .ok (.goto 4, 3) := by decide +kernel
theorem dX8_isOf_33 : decode cX8_isOf 33 = .ok (.iconst 0, 1) := by decide +kernel
theorem dX8_isOf_34 : decode cX8_isOf 34 = .ok (.ireturn, 1) := by decide +kernel
theorem ys_X8_isOf : YS yX8_isOf cX8_isOf 2 (some .boolean) 2 := ⟨m1298, m9, m1299, ⟨by decide +kernel, by decide +kernel, by decide +kernel⟩, by decide⟩
noncomputable def f_X8_isOf_19 (x0 : Int32) (x1 : Int32) (h : AH) : Option (Int32 × AH) := if x1 = 4 then (if x0 = 5 then (some (1, h)) else (some (0, h))) else (some (0, h))
set_option maxRecDepth 20000 in
set_option maxHeartbeats 4000000 in
theorem t_X8_isOf_19 {z : MC} {g : GC} {A : Nat → Prop} (F : Fx z cX8_isOf 2 RX8 (some .boolean) 1 g A)  : ∀ (x0 : Int32) (x1 : Int32) (h : AH), Snd z 2 g A (QF z g A mkI) 19 [(0, .int x0), (1, .int x1)] [] h (f_X8_isOf_19  x0 x1 h) := by
  intro x0 x1 h
  unfold f_X8_isOf_19
  refine s_iload_n F dX8_isOf_19 rfl 1 rfl ?_
  refine s_iconst F (v := 4) dX8_isOf_20 (by decide) ?_
  refine s_icmp_ne F 33 dX8_isOf_21 (by decide) (fun _ => ?_) (fun _ => ?_)
  · refine s_iconst F (v := 0) dX8_isOf_33 (by decide) ?_
    exact s_zret1 F (by decide) dX8_isOf_34
  · refine s_iload_n F dX8_isOf_24 rfl 0 rfl ?_
    refine s_iconst F (v := 5) dX8_isOf_25 (by decide) ?_
    refine s_icmp_ne F 33 dX8_isOf_26 (by decide) (fun _ => ?_) (fun _ => ?_)
    · refine s_iconst F (v := 0) dX8_isOf_33 (by decide) ?_
      exact s_zret1 F (by decide) dX8_isOf_34
    · refine s_iconst F (v := 1) dX8_isOf_29 (by decide) ?_
      refine s_goto F 34 dX8_isOf_30 (by decide) ?_
      exact s_zret1 F (by decide) dX8_isOf_34
noncomputable def f_X8_isOf (x0 : Int32) (x1 : Int32) (h : AH) : Option (Int32 × AH) := if x1 = 0 then (some (1, h)) else (if x0 = x1 then (some (1, h)) else (if x1 = 1 then (if x0 < 4 then (some (1, h)) else (f_X8_isOf_19  x0 x1 h)) else (f_X8_isOf_19  x0 x1 h)))
set_option maxRecDepth 20000 in
set_option maxHeartbeats 4000000 in
theorem ct_X8_isOf (l : Launch) (g : GC) (x0 : Int32) (x1 : Int32) : Ct l yX8_isOf cX8_isOf 2 (some .boolean) 1 [.int x0, .int x1] g mkI (fun h => f_X8_isOf x0 x1 h) := by
  refine Ct.of (by decide +kernel) (Nat.le_of_ble_eq_true rfl) (fun z A h _ F => ?_)
  show Snd z 2 g A (QF z g A mkI) 0 [(0, .int x0), (1, .int x1)] [] h (f_X8_isOf x0 x1 h)
  unfold f_X8_isOf
  refine s_iload_n F dX8_isOf_0 rfl 1 rfl ?_
  refine s_if_eq F 29 dX8_isOf_1 (by decide) (fun _ => ?_) (fun _ => ?_)
  · refine s_iconst F (v := 1) dX8_isOf_29 (by decide) ?_
    refine s_goto F 34 dX8_isOf_30 (by decide) ?_
    exact s_zret1 F (by decide) dX8_isOf_34
  · refine s_iload_n F dX8_isOf_4 rfl 0 rfl ?_
    refine s_iload_n F dX8_isOf_5 rfl 1 rfl ?_
    refine s_icmp_eq F 29 dX8_isOf_6 (by decide) (fun _ => ?_) (fun _ => ?_)
    · refine s_iconst F (v := 1) dX8_isOf_29 (by decide) ?_
      refine s_goto F 34 dX8_isOf_30 (by decide) ?_
      exact s_zret1 F (by decide) dX8_isOf_34
    · refine s_iload_n F dX8_isOf_9 rfl 1 rfl ?_
      refine s_iconst F (v := 1) dX8_isOf_10 (by decide) ?_
      refine s_icmp_ne F 19 dX8_isOf_11 (by decide) (fun _ => ?_) (fun _ => ?_)
      · exact s_sub [0, 1] rfl (t_X8_isOf_19 F  x0 x1 h)
      · refine s_iload_n F dX8_isOf_14 rfl 0 rfl ?_
        refine s_iconst F (v := 4) dX8_isOf_15 (by decide) ?_
        refine s_icmp_lt F 29 dX8_isOf_16 (by decide) (fun _ => ?_) (fun _ => ?_)
        · refine s_iconst F (v := 1) dX8_isOf_29 (by decide) ?_
          refine s_goto F 34 dX8_isOf_30 (by decide) ?_
          exact s_zret1 F (by decide) dX8_isOf_34
        · exact s_sub [0, 1] rfl (t_X8_isOf_19 F  x0 x1 h)
theorem dX8_kind_0 : decode cX8_kind 0 = .ok (.aload_n 0, 1) := by decide +kernel
theorem dX8_kind_1 : decode cX8_kind 1 = .ok (.iconst 0, 1) := by decide +kernel
theorem dX8_kind_2 : decode cX8_kind 2 = .ok (.putfield 65, 3) := by decide +kernel
theorem dX8_kind_5 : decode cX8_kind 5 = .ok (.aload_n 0, 1) := by decide +kernel
theorem dX8_kind_6 : decode cX8_kind 6 = .ok (.iload_n 1, 1) := by decide +kernel
theorem dX8_kind_7 : decode cX8_kind 7 = .ok (.invokevirtual 237, 3) := by decide +kernel
theorem dX8_kind_10 : decode cX8_kind 10 = .ok (.ifCond .eq 12, 3) := by decide +kernel
theorem dX8_kind_13 : decode cX8_kind 13 = .ok (.aload_n 0, 1) := by decide +kernel
theorem dX8_kind_14 : decode cX8_kind 14 = .ok (.iload_n 1, 1) := by decide +kernel
theorem dX8_kind_15 : decode cX8_kind 15 = .ok (.iconst 0, 1) := by decide +kernel
theorem dX8_kind_16 : decode cX8_kind 16 = .ok (.invokevirtual 206, 3) := by decide +kernel
theorem dX8_kind_19 : decode cX8_kind 19 = .ok (.goto 5, 3) := by decide +kernel
theorem dX8_kind_22 : decode cX8_kind 22 = .ok (.ldc 85, 2) := by decide +kernel
theorem dX8_kind_24 : decode cX8_kind 24 = .ok (.ireturn, 1) := by decide +kernel
theorem yv_X8_kind : YV yX8_kind cX8_kind 2 (some .int) 1 := ⟨m1289, m1290, m9, m1291, ⟨by decide +kernel, by decide +kernel, by decide +kernel⟩, by decide⟩
noncomputable def f_X8_kind (q : Nat) (x1 : Int32) (h : AH) : Option (Int32 × AH) := lt (hset h q 0 0) (fun h_1 => bd (f_X8_isBoat q x1 h_1) (fun v_3 h_2 => if v_3 = 0 then (some ((-1000001), h_2)) else (bd (f_X8_of q x1 0 h_2) (fun v_5 h_4 => some (v_5, h_4)))))
set_option maxRecDepth 20000 in
set_option maxHeartbeats 4000000 in
theorem ct_X8_kind (l : Launch) (g : GC) {q : Nat} (hq : (gL g)[q]? = some (.inl 8)) (x1 : Int32) : Ct l yX8_kind cX8_kind 2 (some .int) 3 [.ref (gad g q), .int x1] g mkI (fun h => f_X8_kind q x1 h) := by
  refine Ct.of (by decide +kernel) (Nat.le_of_ble_eq_true rfl) (fun z A h _ F => ?_)
  show Snd z 2 g A (QF z g A mkI) 0 [(0, .ref (gad g q)), (1, .int x1)] [] h (f_X8_kind q x1 h)
  unfold f_X8_kind
  refine s_aload_n F dX8_kind_0 rfl 0 rfl ?_
  refine s_iconst F (v := 0) dX8_kind_1 (by decide) ?_
  refine s_put F ciX8 (k := 0) hq (by decide) rfl rfl rfl rfl m893 dX8_kind_2 ?_
  refine s_letH (fun h_1 => ?_)
  refine s_aload_n F dX8_kind_5 rfl 0 rfl ?_
  refine s_iload_n F dX8_kind_6 rfl 1 rfl ?_
  refine s_callVi (f := fun hh => f_X8_isBoat q x1 hh) (As := [.int x1]) F yv_X8_isBoat (ct_X8_isBoat z.2.1 g hq x1) (by decide) m1138 hq rfl rfl rfl (Nat.le_of_ble_eq_true rfl) dX8_kind_7 (fun v_3 h_2 e_v_3 => ?_)
  refine s_if_eq F 22 dX8_kind_10 (by decide) (fun _ => ?_) (fun _ => ?_)
  · refine s_ldc F (v := (-1000001)) dX8_kind_22 m1009 ?_
    exact s_iret F dX8_kind_24
  · refine s_aload_n F dX8_kind_13 rfl 0 rfl ?_
    refine s_iload_n F dX8_kind_14 rfl 1 rfl ?_
    refine s_iconst F (v := 0) dX8_kind_15 (by decide) ?_
    refine s_callVi (f := fun hh => f_X8_of q x1 0 hh) (As := [.int x1, .int 0]) F yv_X8_of (ct_X8_of z.2.1 g hq x1 0) (by decide) m1146 hq rfl rfl rfl (Nat.le_of_ble_eq_true rfl) dX8_kind_16 (fun v_5 h_4 e_v_5 => ?_)
    refine s_goto F 24 dX8_kind_19 (by decide) ?_
    exact s_iret F dX8_kind_24
theorem dX8_as_0 : decode cX8_as 0 = .ok (.aload_n 0, 1) := by decide +kernel
theorem dX8_as_1 : decode cX8_as 1 = .ok (.iconst 0, 1) := by decide +kernel
theorem dX8_as_2 : decode cX8_as 2 = .ok (.putfield 65, 3) := by decide +kernel
theorem dX8_as_5 : decode cX8_as 5 = .ok (.aload_n 0, 1) := by decide +kernel
theorem dX8_as_6 : decode cX8_as 6 = .ok (.iload_n 1, 1) := by decide +kernel
theorem dX8_as_7 : decode cX8_as 7 = .ok (.invokevirtual 237, 3) := by decide +kernel
theorem dX8_as_10 : decode cX8_as 10 = .ok (.ifCond .eq 15, 3) := by decide +kernel
theorem dX8_as_13 : decode cX8_as 13 = .ok (.iload_n 2, 1) := by decide +kernel
theorem dX8_as_14 : decode cX8_as 14 = .ok (.i2l, 1) := by decide +kernel
theorem dX8_as_15 : decode cX8_as 15 = .ok (.lconst 0, 1) := by decide +kernel
theorem dX8_as_16 : decode cX8_as 16 = .ok (.ldc2_w 311, 3) := by decide +kernel
theorem dX8_as_19 : decode cX8_as 19 = .ok (.invokestatic 75, 3) := by decide +kernel
theorem dX8_as_22 : decode cX8_as 22 = .ok (.ifCond .ne 6, 3) := by decide +kernel
theorem dX8_as_25 : decode cX8_as 25 = .ok (.ldc 85, 2) := by decide +kernel
theorem dX8_as_27 : decode cX8_as 27 = .ok (.ireturn, 1) := by decide +kernel
theorem dX8_as_28 : decode cX8_as 28 = .ok (.aload_n 0, 1) := by decide +kernel
theorem dX8_as_29 : decode cX8_as 29 = .ok (.iconst 0, 1) := by decide +kernel
theorem dX8_as_30 : decode cX8_as 30 = .ok (.putfield 69, 3) := by decide +kernel
theorem dX8_as_33 : decode cX8_as 33 = .ok (.aload_n 0, 1) := by decide +kernel
theorem dX8_as_34 : decode cX8_as 34 = .ok (.iload_n 1, 1) := by decide +kernel
theorem dX8_as_35 : decode cX8_as 35 = .ok (.iconst 0, 1) := by decide +kernel
theorem dX8_as_36 : decode cX8_as 36 = .ok (.invokevirtual 206, 3) := by decide +kernel
theorem dX8_as_39 : decode cX8_as 39 = .ok (.iload_n 2, 1) := by decide +kernel
theorem dX8_as_40 : decode cX8_as 40 = .ok (.invokestatic 313, 3) := by decide +kernel
theorem dX8_as_43 : decode cX8_as 43 = .ok (.ifCond .eq 7, 3) := by decide +kernel
theorem dX8_as_46 : decode cX8_as 46 = .ok (.iload_n 1, 1) := by decide +kernel
theorem dX8_as_47 : decode cX8_as 47 = .ok (.goto 8, 3) := by decide +kernel
theorem dX8_as_50 : decode cX8_as 50 = .ok (.aload_n 0, 1) := by decide +kernel
theorem dX8_as_51 : decode cX8_as 51 = .ok (.iconst 3, 1) := by decide +kernel
theorem dX8_as_52 : decode cX8_as 52 = .ok (.invokevirtual 86, 3) := by decide +kernel
theorem dX8_as_55 : decode cX8_as 55 = .ok (.ireturn, 1) := by decide +kernel
theorem yv_X8_as : YV yX8_as cX8_as 3 (some .int) 2 := ⟨m1293, m1294, m9, m1295, ⟨by decide +kernel, by decide +kernel, by decide +kernel⟩, by decide⟩
noncomputable def f_X8_as (q : Nat) (x1 : Int32) (x2 : Int32) (h : AH) : Option (Int32 × AH) := lt (hset h q 0 0) (fun h_1 => bd (f_X8_isBoat q x1 h_1) (fun v_3 h_2 => if v_3 = 0 then (some ((-1000001), h_2)) else (bd (f_X8_in ((x2 : Int32).toInt64) 0 5 h_2) (fun v_5 h_4 => if v_5 = 0 then (some ((-1000001), h_4)) else (lt (hset h_4 q 1 0) (fun h_6 => bd (f_X8_of q x1 0 h_6) (fun v_8 h_7 => bd (f_X8_isOf v_8 x2 h_7) (fun v_10 h_9 => if v_10 = 0 then (bd (f_X8_finding q 3 h_9) (fun v_12 h_11 => some (v_12, h_11))) else (some (x1, h_9))))))))))
set_option maxRecDepth 20000 in
set_option maxHeartbeats 4000000 in
theorem ct_X8_as (l : Launch) (g : GC) {q : Nat} (hq : (gL g)[q]? = some (.inl 8)) (x1 : Int32) (x2 : Int32) : Ct l yX8_as cX8_as 3 (some .int) 3 [.ref (gad g q), .int x1, .int x2] g mkI (fun h => f_X8_as q x1 x2 h) := by
  refine Ct.of (by decide +kernel) (Nat.le_of_ble_eq_true rfl) (fun z A h _ F => ?_)
  show Snd z 3 g A (QF z g A mkI) 0 [(0, .ref (gad g q)), (1, .int x1), (2, .int x2)] [] h (f_X8_as q x1 x2 h)
  unfold f_X8_as
  refine s_aload_n F dX8_as_0 rfl 0 rfl ?_
  refine s_iconst F (v := 0) dX8_as_1 (by decide) ?_
  refine s_put F ciX8 (k := 0) hq (by decide) rfl rfl rfl rfl m893 dX8_as_2 ?_
  refine s_letH (fun h_1 => ?_)
  refine s_aload_n F dX8_as_5 rfl 0 rfl ?_
  refine s_iload_n F dX8_as_6 rfl 1 rfl ?_
  refine s_callVi (f := fun hh => f_X8_isBoat q x1 hh) (As := [.int x1]) F yv_X8_isBoat (ct_X8_isBoat z.2.1 g hq x1) (by decide) m1138 hq rfl rfl rfl (Nat.le_of_ble_eq_true rfl) dX8_as_7 (fun v_3 h_2 e_v_3 => ?_)
  refine s_if_eq F 25 dX8_as_10 (by decide) (fun _ => ?_) (fun _ => ?_)
  · refine s_ldc F (v := (-1000001)) dX8_as_25 m1009 ?_
    exact s_iret F dX8_as_27
  · refine s_iload_n F dX8_as_13 rfl 2 rfl ?_
    refine s_i2l F dX8_as_14 ?_
    refine s_lconst F (v := 0) dX8_as_15 (by decide) ?_
    refine s_ldc2 F (v := 5) dX8_as_16 m1296 ?_
    refine s_callSi (f := fun hh => f_X8_in ((x2 : Int32).toInt64) 0 5 hh) (As := [.long ((x2 : Int32).toInt64), .long 0, .long 5]) F ys_X8_in (ct_X8_in z.2.1 g ((x2 : Int32).toInt64) 0 5) (by decide) m1005 rfl rfl (Nat.le_of_ble_eq_true rfl) dX8_as_19 (fun v_5 h_4 e_v_5 => ?_)
    refine s_if_ne F 28 dX8_as_22 (by decide) (fun _ => ?_) (fun _ => ?_)
    · refine s_aload_n F dX8_as_28 rfl 0 rfl ?_
      refine s_iconst F (v := 0) dX8_as_29 (by decide) ?_
      refine s_put F ciX8 (k := 1) hq (by decide) rfl rfl rfl rfl m894 dX8_as_30 ?_
      refine s_letH (fun h_6 => ?_)
      refine s_aload_n F dX8_as_33 rfl 0 rfl ?_
      refine s_iload_n F dX8_as_34 rfl 1 rfl ?_
      refine s_iconst F (v := 0) dX8_as_35 (by decide) ?_
      refine s_callVi (f := fun hh => f_X8_of q x1 0 hh) (As := [.int x1, .int 0]) F yv_X8_of (ct_X8_of z.2.1 g hq x1 0) (by decide) m1146 hq rfl rfl rfl (Nat.le_of_ble_eq_true rfl) dX8_as_36 (fun v_8 h_7 e_v_8 => ?_)
      refine s_iload_n F dX8_as_39 rfl 2 rfl ?_
      refine s_callSi (f := fun hh => f_X8_isOf v_8 x2 hh) (As := [.int v_8, .int x2]) F ys_X8_isOf (ct_X8_isOf z.2.1 g v_8 x2) (by decide) m1297 rfl rfl (Nat.le_of_ble_eq_true rfl) dX8_as_40 (fun v_10 h_9 e_v_10 => ?_)
      refine s_if_eq F 50 dX8_as_43 (by decide) (fun _ => ?_) (fun _ => ?_)
      · refine s_aload_n F dX8_as_50 rfl 0 rfl ?_
        refine s_iconst F (v := 3) dX8_as_51 (by decide) ?_
        refine s_callVi (f := fun hh => f_X8_finding q 3 hh) (As := [.int 3]) F yv_X8_finding (ct_X8_finding z.2.1 g hq 3) (by decide) m1010 hq rfl rfl rfl (Nat.le_of_ble_eq_true rfl) dX8_as_52 (fun v_12 h_11 e_v_12 => ?_)
        exact s_iret F dX8_as_55
      · refine s_iload_n F dX8_as_46 rfl 1 rfl ?_
        refine s_goto F 55 dX8_as_47 (by decide) ?_
        exact s_iret F dX8_as_55
    · refine s_ldc F (v := (-1000001)) dX8_as_25 m1009 ?_
      exact s_iret F dX8_as_27
theorem dX8_began_0 : decode cX8_began 0 = .ok (.aload_n 0, 1) := by decide +kernel
theorem dX8_began_1 : decode cX8_began 1 = .ok (.getfield 316, 3) := by decide +kernel
theorem dX8_began_4 : decode cX8_began 4 = .ok (.bipush 16, 2) := by decide +kernel
theorem dX8_began_6 : decode cX8_began 6 = .ok (.if_icmp .ge 23, 3) := by decide +kernel
theorem dX8_began_9 : decode cX8_began 9 = .ok (.aload_n 0, 1) := by decide +kernel
theorem dX8_began_10 : decode cX8_began 10 = .ok (.getfield 62, 3) := by decide +kernel
theorem dX8_began_13 : decode cX8_began 13 = .ok (.aload_n 0, 1) := by decide +kernel
theorem dX8_began_14 : decode cX8_began 14 = .ok (.getfield 316, 3) := by decide +kernel
theorem dX8_began_17 : decode cX8_began 17 = .ok (.iload_n 1, 1) := by decide +kernel
theorem dX8_began_18 : decode cX8_began 18 = .ok (.iastore, 1) := by decide +kernel
theorem dX8_began_19 : decode cX8_began 19 = .ok (.aload_n 0, 1) := by decide +kernel
theorem dX8_began_20 : decode cX8_began 20 = .ok (.dup, 1) := by decide +kernel
theorem dX8_began_21 : decode cX8_began 21 = .ok (.getfield 316, 3) := by decide +kernel
theorem dX8_began_24 : decode cX8_began 24 = .ok (.iconst 1, 1) := by decide +kernel
theorem dX8_began_25 : decode cX8_began 25 = .ok (.iadd, 1) := by decide +kernel
theorem dX8_began_26 : decode cX8_began 26 = .ok (.putfield 316, 3) := by decide +kernel
theorem dX8_began_29 : decode cX8_began 29 = .ok (.return_, 1) := by decide +kernel
theorem yv_X8_began : YV yX8_began cX8_began 2 none 1 := ⟨m1314, ms68, m9, m1315, ⟨by decide +kernel, by decide +kernel, by decide +kernel⟩, by decide⟩
noncomputable def f_X8_began (q : Nat) (x1 : Int32) (h : AH) : Option (Unit × AH) := if (16 : Int32) ≤ (h q 33) then (some ((), h)) else (lt (h q 33) (fun v_2 => ck v_2 16 (lt (hset h (q + 18) (v_2 : Int32).toNatClampNeg x1) (fun h_3 => lt (hset h_3 q 33 ((h_3 q 33) + 1)) (fun h_4 => some ((), h_4))))))
set_option maxRecDepth 20000 in
set_option maxHeartbeats 4000000 in
theorem ct_X8_began (l : Launch) (g : GC) {q : Nat} (hq : (gL g)[q]? = some (.inl 8)) (x1 : Int32) : Ct l yX8_began cX8_began 2 none 1 [.ref (gad g q), .int x1] g mkU (fun h => f_X8_began q x1 h) := by
  refine Ct.of (by decide +kernel) (Nat.le_of_ble_eq_true rfl) (fun z A h _ F => ?_)
  show Snd z 2 g A (QF z g A mkU) 0 [(0, .ref (gad g q)), (1, .int x1)] [] h (f_X8_began q x1 h)
  unfold f_X8_began
  refine s_aload_n F dX8_began_0 rfl 0 rfl ?_
  refine s_geti F ciX8 33 hq (by decide) rfl rfl m926 dX8_began_1 ?_
  refine s_bipush F (v := 16) dX8_began_4 (by decide) ?_
  refine s_icmp_ge F 29 dX8_began_6 (by decide) (fun _ => ?_) (fun _ => ?_)
  · exact s_vret F dX8_began_29
  · refine s_aload_n F dX8_began_9 rfl 0 rfl ?_
    have hw_1 := wf_ref F.2.2.2.2.2.2.1 hq 32 18 (.inr (0, 16)) rfl
    refine s_getr F ciX8 32 18 (.inr (0, 16)) hq (by decide) rfl rfl m925 dX8_began_10 ?_
    refine s_aload_n F dX8_began_13 rfl 0 rfl ?_
    refine s_geti F ciX8 33 hq (by decide) rfl rfl m926 dX8_began_14 ?_
    refine s_iload_n F dX8_began_17 rfl 1 rfl ?_
    refine s_leti2 (fun v_2 => ?_)
    refine s_iast F hw_1 dX8_began_18 ?_
    refine s_letH (fun h_3 => ?_)
    refine s_aload_n F dX8_began_19 rfl 0 rfl ?_
    refine s_dup F dX8_began_20 rfl ?_
    refine s_geti F ciX8 33 hq (by decide) rfl rfl m926 dX8_began_21 ?_
    refine s_iconst F (v := 1) dX8_began_24 (by decide) ?_
    refine s_iadd F dX8_began_25 ?_
    refine s_put F ciX8 (k := 33) hq (by decide) rfl rfl rfl rfl m926 dX8_began_26 ?_
    refine s_letH (fun h_4 => ?_)
    exact s_vret F dX8_began_29
theorem dX8_plainSize_0 : decode cX8_plainSize 0 = .ok (.aload_n 0, 1) := by decide +kernel
theorem dX8_plainSize_1 : decode cX8_plainSize 1 = .ok (.bipush 10, 2) := by decide +kernel
theorem dX8_plainSize_3 : decode cX8_plainSize 3 = .ok (.invokevirtual 319, 3) := by decide +kernel
theorem dX8_plainSize_6 : decode cX8_plainSize 6 = .ok (.aload_n 0, 1) := by decide +kernel
theorem dX8_plainSize_7 : decode cX8_plainSize 7 = .ok (.iload_n 1, 1) := by decide +kernel
theorem dX8_plainSize_8 : decode cX8_plainSize 8 = .ok (.invokevirtual 245, 3) := by decide +kernel
theorem dX8_plainSize_11 : decode cX8_plainSize 11 = .ok (.ireturn, 1) := by decide +kernel
theorem yv_X8_plainSize : YV yX8_plainSize cX8_plainSize 2 (some .int) 1 := ⟨m1318, ms69, m9, m1319, ⟨by decide +kernel, by decide +kernel, by decide +kernel⟩, by decide⟩
noncomputable def f_X8_plainSize (q : Nat) (x1 : Int32) (h : AH) : Option (Int32 × AH) := bd (f_X8_began q 10 h) (fun _ h_1 => bd (f_X8_allOf q x1 h_1) (fun v_4 h_3 => some (v_4, h_3)))
set_option maxRecDepth 20000 in
set_option maxHeartbeats 4000000 in
theorem ct_X8_plainSize (l : Launch) (g : GC) {q : Nat} (hq : (gL g)[q]? = some (.inl 8)) (x1 : Int32) : Ct l yX8_plainSize cX8_plainSize 2 (some .int) 3 [.ref (gad g q), .int x1] g mkI (fun h => f_X8_plainSize q x1 h) := by
  refine Ct.of (by decide +kernel) (Nat.le_of_ble_eq_true rfl) (fun z A h _ F => ?_)
  show Snd z 2 g A (QF z g A mkI) 0 [(0, .ref (gad g q)), (1, .int x1)] [] h (f_X8_plainSize q x1 h)
  unfold f_X8_plainSize
  refine s_aload_n F dX8_plainSize_0 rfl 0 rfl ?_
  refine s_bipush F (v := 10) dX8_plainSize_1 (by decide) ?_
  refine s_callVu (f := fun hh => f_X8_began q 10 hh) (As := [.int 10]) F yv_X8_began (ct_X8_began z.2.1 g hq 10) (by decide) m1312 hq rfl rfl rfl (Nat.le_of_ble_eq_true rfl) dX8_plainSize_3 (fun _ h_1 e_v_2 => ?_)
  refine s_aload_n F dX8_plainSize_6 rfl 0 rfl ?_
  refine s_iload_n F dX8_plainSize_7 rfl 1 rfl ?_
  refine s_callVi (f := fun hh => f_X8_allOf q x1 hh) (As := [.int x1]) F yv_X8_allOf (ct_X8_allOf z.2.1 g hq x1) (by decide) m1170 hq rfl rfl rfl (Nat.le_of_ble_eq_true rfl) dX8_plainSize_8 (fun v_4 h_3 e_v_4 => ?_)
  exact s_iret F dX8_plainSize_11
theorem dX8_cartSize_0 : decode cX8_cartSize 0 = .ok (.aload_n 0, 1) := by decide +kernel
theorem dX8_cartSize_1 : decode cX8_cartSize 1 = .ok (.iload_n 1, 1) := by decide +kernel
theorem dX8_cartSize_2 : decode cX8_cartSize 2 = .ok (.iconst 0, 1) := by decide +kernel
theorem dX8_cartSize_3 : decode cX8_cartSize 3 = .ok (.invokevirtual 206, 3) := by decide +kernel
theorem dX8_cartSize_6 : decode cX8_cartSize 6 = .ok (.iconst 5, 1) := by decide +kernel
theorem dX8_cartSize_7 : decode cX8_cartSize 7 = .ok (.if_icmp .ne 9, 3) := by decide +kernel
theorem dX8_cartSize_10 : decode cX8_cartSize 10 = .ok (.aload_n 0, 1) := by decide +kernel
theorem dX8_cartSize_11 : decode cX8_cartSize 11 = .ok (.bipush 14, 2) := by decide +kernel
theorem dX8_cartSize_13 : decode cX8_cartSize 13 = .ok (.invokevirtual 319, 3) := by decide +kernel
theorem dX8_cartSize_16 : decode cX8_cartSize 16 = .ok (.aload_n 0, 1) := by decide +kernel
theorem dX8_cartSize_17 : decode cX8_cartSize 17 = .ok (.bipush 13, 2) := by decide +kernel
theorem dX8_cartSize_19 : decode cX8_cartSize 19 = .ok (.invokevirtual 319, 3) := by decide +kernel
theorem dX8_cartSize_22 : decode cX8_cartSize 22 = .ok (.aload_n 0, 1) := by decide +kernel
theorem dX8_cartSize_23 : decode cX8_cartSize 23 = .ok (.iload_n 1, 1) := by decide +kernel
theorem dX8_cartSize_24 : decode cX8_cartSize 24 = .ok (.invokevirtual 322, 3) := by decide +kernel
theorem dX8_cartSize_27 : decode cX8_cartSize 27 = .ok (.bipush 100, 2) := by decide +kernel
theorem dX8_cartSize_29 : decode cX8_cartSize 29 = .ok (.isub, 1) := by decide +kernel
theorem dX8_cartSize_30 : decode cX8_cartSize 30 = .ok (.istore_n 2, 1) := by decide +kernel
theorem dX8_cartSize_31 : decode cX8_cartSize 31 = .ok (.aload_n 0, 1) := by decide +kernel
theorem dX8_cartSize_32 : decode cX8_cartSize 32 = .ok (.iload_n 1, 1) := by decide +kernel
theorem dX8_cartSize_33 : decode cX8_cartSize 33 = .ok (.iconst 0, 1) := by decide +kernel
theorem dX8_cartSize_34 : decode cX8_cartSize 34 = .ok (.invokevirtual 206, 3) := by decide +kernel
theorem dX8_cartSize_37 : decode cX8_cartSize 37 = .ok (.iconst 5, 1) := by decide +kernel
theorem dX8_cartSize_38 : decode cX8_cartSize 38 = .ok (.if_icmp .ne 9, 3) := by decide +kernel
theorem dX8_cartSize_41 : decode cX8_cartSize 41 = .ok (.iconst 2, 1) := by decide +kernel
theorem dX8_cartSize_42 : decode cX8_cartSize 42 = .ok (.iload_n 2, 1) := by decide +kernel
theorem dX8_cartSize_43 : decode cX8_cartSize 43 = .ok (.imul, 1) := by decide +kernel
theorem dX8_cartSize_44 : decode cX8_cartSize 44 = .ok (.goto 4, 3) := by decide +kernel
theorem dX8_cartSize_47 : decode cX8_cartSize 47 = .ok (.iload_n 2, 1) := by decide +kernel
theorem dX8_cartSize_48 : decode cX8_cartSize 48 = .ok (.ireturn, 1) := by decide +kernel
theorem yv_X8_cartSize : YV yX8_cartSize cX8_cartSize 3 (some .int) 1 := ⟨m1310, ms67, m9, m1311, ⟨by decide +kernel, by decide +kernel, by decide +kernel⟩, by decide⟩
noncomputable def f_X8_cartSize_16 (q : Nat) (x1 : Int32) (h : AH) : Option (Int32 × AH) := bd (f_X8_began q 13 h) (fun _ h_1 => bd (f_X8_plainSize q x1 h_1) (fun v_4 h_3 => lt ((v_4 - 100)) (fun v_5 => bd (f_X8_of q x1 0 h_3) (fun v_7 h_6 => if v_7 = 5 then (some ((2 * v_5), h_6)) else (some (v_5, h_6))))))
set_option maxRecDepth 20000 in
set_option maxHeartbeats 4000000 in
theorem t_X8_cartSize_16 {z : MC} {g : GC} {A : Nat → Prop} (F : Fx z cX8_cartSize 3 RX8 (some .int) 4 g A) {q : Nat} (hq : (gL g)[q]? = some (.inl 8)) : ∀ (x1 : Int32) (h : AH), Snd z 3 g A (QF z g A mkI) 16 [(0, .ref (gad g q)), (1, .int x1)] [] h (f_X8_cartSize_16 q x1 h) := by
  intro x1 h
  unfold f_X8_cartSize_16
  refine s_aload_n F dX8_cartSize_16 rfl 0 rfl ?_
  refine s_bipush F (v := 13) dX8_cartSize_17 (by decide) ?_
  refine s_callVu (f := fun hh => f_X8_began q 13 hh) (As := [.int 13]) F yv_X8_began (ct_X8_began z.2.1 g hq 13) (by decide) m1312 hq rfl rfl rfl (Nat.le_of_ble_eq_true rfl) dX8_cartSize_19 (fun _ h_1 e_v_2 => ?_)
  refine s_aload_n F dX8_cartSize_22 rfl 0 rfl ?_
  refine s_iload_n F dX8_cartSize_23 rfl 1 rfl ?_
  refine s_callVi (f := fun hh => f_X8_plainSize q x1 hh) (As := [.int x1]) F yv_X8_plainSize (ct_X8_plainSize z.2.1 g hq x1) (by decide) m1316 hq rfl rfl rfl (Nat.le_of_ble_eq_true rfl) dX8_cartSize_24 (fun v_4 h_3 e_v_4 => ?_)
  refine s_bipush F (v := 100) dX8_cartSize_27 (by decide) ?_
  refine s_isub F dX8_cartSize_29 ?_
  refine s_leti (fun v_5 => ?_)
  refine s_istore_n F (lv' := [(2, .int v_5), (0, .ref (gad g q)), (1, .int x1)]) dX8_cartSize_30 rfl (by decide) rfl ?_
  refine s_aload_n F dX8_cartSize_31 rfl 1 rfl ?_
  refine s_iload_n F dX8_cartSize_32 rfl 2 rfl ?_
  refine s_iconst F (v := 0) dX8_cartSize_33 (by decide) ?_
  refine s_callVi (f := fun hh => f_X8_of q x1 0 hh) (As := [.int x1, .int 0]) F yv_X8_of (ct_X8_of z.2.1 g hq x1 0) (by decide) m1146 hq rfl rfl rfl (Nat.le_of_ble_eq_true rfl) dX8_cartSize_34 (fun v_7 h_6 e_v_7 => ?_)
  refine s_iconst F (v := 5) dX8_cartSize_37 (by decide) ?_
  refine s_icmp_ne F 47 dX8_cartSize_38 (by decide) (fun _ => ?_) (fun _ => ?_)
  · refine s_iload_n F dX8_cartSize_47 rfl 0 rfl ?_
    exact s_iret F dX8_cartSize_48
  · refine s_iconst F (v := 2) dX8_cartSize_41 (by decide) ?_
    refine s_iload_n F dX8_cartSize_42 rfl 0 rfl ?_
    refine s_imul F dX8_cartSize_43 ?_
    refine s_goto F 48 dX8_cartSize_44 (by decide) ?_
    exact s_iret F dX8_cartSize_48
noncomputable def f_X8_cartSize (q : Nat) (x1 : Int32) (h : AH) : Option (Int32 × AH) := bd (f_X8_of q x1 0 h) (fun v_2 h_1 => if v_2 = 5 then (bd (f_X8_began q 14 h_1) (fun _ h_3 => f_X8_cartSize_16 q x1 h_3)) else (f_X8_cartSize_16 q x1 h_1))
set_option maxRecDepth 20000 in
set_option maxHeartbeats 4000000 in
theorem ct_X8_cartSize (l : Launch) (g : GC) {q : Nat} (hq : (gL g)[q]? = some (.inl 8)) (x1 : Int32) : Ct l yX8_cartSize cX8_cartSize 3 (some .int) 4 [.ref (gad g q), .int x1] g mkI (fun h => f_X8_cartSize q x1 h) := by
  refine Ct.of (by decide +kernel) (Nat.le_of_ble_eq_true rfl) (fun z A h _ F => ?_)
  show Snd z 3 g A (QF z g A mkI) 0 [(0, .ref (gad g q)), (1, .int x1)] [] h (f_X8_cartSize q x1 h)
  unfold f_X8_cartSize
  refine s_aload_n F dX8_cartSize_0 rfl 0 rfl ?_
  refine s_iload_n F dX8_cartSize_1 rfl 1 rfl ?_
  refine s_iconst F (v := 0) dX8_cartSize_2 (by decide) ?_
  refine s_callVi (f := fun hh => f_X8_of q x1 0 hh) (As := [.int x1, .int 0]) F yv_X8_of (ct_X8_of z.2.1 g hq x1 0) (by decide) m1146 hq rfl rfl rfl (Nat.le_of_ble_eq_true rfl) dX8_cartSize_3 (fun v_2 h_1 e_v_2 => ?_)
  refine s_iconst F (v := 5) dX8_cartSize_6 (by decide) ?_
  refine s_icmp_ne F 16 dX8_cartSize_7 (by decide) (fun _ => ?_) (fun _ => ?_)
  · exact s_sub [0, 1] rfl (t_X8_cartSize_16 F hq x1 h_1)
  · refine s_aload_n F dX8_cartSize_10 rfl 0 rfl ?_
    refine s_bipush F (v := 14) dX8_cartSize_11 (by decide) ?_
    refine s_callVu (f := fun hh => f_X8_began q 14 hh) (As := [.int 14]) F yv_X8_began (ct_X8_began z.2.1 g hq 14) (by decide) m1312 hq rfl rfl rfl (Nat.le_of_ble_eq_true rfl) dX8_cartSize_13 (fun _ h_3 e_v_4 => ?_)
    exact s_sub [0, 1] rfl (t_X8_cartSize_16 F hq x1 h_3)
theorem dX8_markOf_0 : decode cX8_markOf 0 = .ok (.aload_n 0, 1) := by decide +kernel
theorem dX8_markOf_1 : decode cX8_markOf 1 = .ok (.iload_n 1, 1) := by decide +kernel
theorem dX8_markOf_2 : decode cX8_markOf 2 = .ok (.iconst 0, 1) := by decide +kernel
theorem dX8_markOf_3 : decode cX8_markOf 3 = .ok (.invokevirtual 206, 3) := by decide +kernel
theorem dX8_markOf_6 : decode cX8_markOf 6 = .ok (.istore_n 2, 1) := by decide +kernel
theorem dX8_markOf_7 : decode cX8_markOf 7 = .ok (.iload_n 2, 1) := by decide +kernel
theorem dX8_markOf_8 : decode cX8_markOf 8 = .ok (.iconst 4, 1) := by decide +kernel
theorem dX8_markOf_9 : decode cX8_markOf 9 = .ok (.if_icmp .lt 23, 3) := by decide +kernel
theorem dX8_markOf_12 : decode cX8_markOf 12 = .ok (.aload_n 0, 1) := by decide +kernel
theorem dX8_markOf_13 : decode cX8_markOf 13 = .ok (.bipush 23, 2) := by decide +kernel
theorem dX8_markOf_15 : decode cX8_markOf 15 = .ok (.invokevirtual 319, 3) := by decide +kernel
theorem dX8_markOf_18 : decode cX8_markOf 18 = .ok (.aload_n 0, 1) := by decide +kernel
theorem dX8_markOf_19 : decode cX8_markOf 19 = .ok (.bipush 20, 2) := by decide +kernel
theorem dX8_markOf_21 : decode cX8_markOf 21 = .ok (.invokevirtual 319, 3) := by decide +kernel
theorem dX8_markOf_24 : decode cX8_markOf 24 = .ok (.iload_n 1, 1) := by decide +kernel
theorem dX8_markOf_25 : decode cX8_markOf 25 = .ok (.aload_n 0, 1) := by decide +kernel
theorem dX8_markOf_26 : decode cX8_markOf 26 = .ok (.iload_n 1, 1) := by decide +kernel
theorem dX8_markOf_27 : decode cX8_markOf 27 = .ok (.invokevirtual 325, 3) := by decide +kernel
theorem dX8_markOf_30 : decode cX8_markOf 30 = .ok (.isub, 1) := by decide +kernel
theorem dX8_markOf_31 : decode cX8_markOf 31 = .ok (.ireturn, 1) := by decide +kernel
theorem dX8_markOf_32 : decode cX8_markOf 32 = .ok (.iload_n 2, 1) := by decide +kernel
theorem dX8_markOf_33 : decode cX8_markOf 33 = .ok (.iconst 1, 1) := by decide +kernel
theorem dX8_markOf_34 : decode cX8_markOf 34 = .ok (.if_icmp .eq 19, 3) := by decide +kernel
theorem dX8_markOf_37 : decode cX8_markOf 37 = .ok (.aload_n 0, 1) := by decide +kernel
theorem dX8_markOf_38 : decode cX8_markOf 38 = .ok (.iload_n 2, 1) := by decide +kernel
theorem dX8_markOf_39 : decode cX8_markOf 39 = .ok (.iconst 2, 1) := by decide +kernel
theorem dX8_markOf_40 : decode cX8_markOf 40 = .ok (.if_icmp .ne 8, 3) := by decide +kernel
theorem dX8_markOf_43 : decode cX8_markOf 43 = .ok (.bipush 22, 2) := by decide +kernel
theorem dX8_markOf_45 : decode cX8_markOf 45 = .ok (.goto 5, 3) := by decide +kernel
theorem dX8_markOf_48 : decode cX8_markOf 48 = .ok (.bipush 24, 2) := by decide +kernel
theorem dX8_markOf_50 : decode cX8_markOf 50 = .ok (.invokevirtual 319, 3) := by decide +kernel
theorem dX8_markOf_53 : decode cX8_markOf 53 = .ok (.aload_n 0, 1) := by decide +kernel
theorem dX8_markOf_54 : decode cX8_markOf 54 = .ok (.bipush 21, 2) := by decide +kernel
theorem dX8_markOf_56 : decode cX8_markOf 56 = .ok (.invokevirtual 319, 3) := by decide +kernel
theorem dX8_markOf_59 : decode cX8_markOf 59 = .ok (.aload_n 0, 1) := by decide +kernel
theorem dX8_markOf_60 : decode cX8_markOf 60 = .ok (.bipush 20, 2) := by decide +kernel
theorem dX8_markOf_62 : decode cX8_markOf 62 = .ok (.invokevirtual 319, 3) := by decide +kernel
theorem dX8_markOf_65 : decode cX8_markOf 65 = .ok (.iload_n 1, 1) := by decide +kernel
theorem dX8_markOf_66 : decode cX8_markOf 66 = .ok (.aload_n 0, 1) := by decide +kernel
theorem dX8_markOf_67 : decode cX8_markOf 67 = .ok (.iload_n 1, 1) := by decide +kernel
theorem dX8_markOf_68 : decode cX8_markOf 68 = .ok (.iconst 1, 1) := by decide +kernel
theorem dX8_markOf_69 : decode cX8_markOf 69 = .ok (.invokevirtual 206, 3) := by decide +kernel
theorem dX8_markOf_72 : decode cX8_markOf 72 = .ok (.iadd, 1) := by decide +kernel
theorem dX8_markOf_73 : decode cX8_markOf 73 = .ok (.istore_n 3, 1) := by decide +kernel
theorem dX8_markOf_74 : decode cX8_markOf 74 = .ok (.iload_n 2, 1) := by decide +kernel
theorem dX8_markOf_75 : decode cX8_markOf 75 = .ok (.iconst 1, 1) := by decide +kernel
theorem dX8_markOf_76 : decode cX8_markOf 76 = .ok (.if_icmp .ne 7, 3) := by decide +kernel
theorem dX8_markOf_79 : decode cX8_markOf 79 = .ok (.iload_n 3, 1) := by decide +kernel
theorem dX8_markOf_80 : decode cX8_markOf 80 = .ok (.goto 19, 3) := by decide +kernel
theorem dX8_markOf_83 : decode cX8_markOf 83 = .ok (.iload_n 2, 1) := by decide +kernel
theorem dX8_markOf_84 : decode cX8_markOf 84 = .ok (.iconst 2, 1) := by decide +kernel
theorem dX8_markOf_85 : decode cX8_markOf 85 = .ok (.if_icmp .ne 11, 3) := by decide +kernel
theorem dX8_markOf_88 : decode cX8_markOf 88 = .ok (.iload_n 3, 1) := by decide +kernel
theorem dX8_markOf_89 : decode cX8_markOf 89 = .ok (.sipush 1000, 3) := by decide +kernel
theorem dX8_markOf_92 : decode cX8_markOf 92 = .ok (.isub, 1) := by decide +kernel
theorem dX8_markOf_93 : decode cX8_markOf 93 = .ok (.goto 6, 3) := by decide +kernel
theorem dX8_markOf_96 : decode cX8_markOf 96 = .ok (.iconst 2, 1) := by decide +kernel
theorem dX8_markOf_97 : decode cX8_markOf 97 = .ok (.iload_n 3, 1) := by decide +kernel
theorem dX8_markOf_98 : decode cX8_markOf 98 = .ok (.imul, 1) := by decide +kernel
theorem dX8_markOf_99 : decode cX8_markOf 99 = .ok (.ireturn, 1) := by decide +kernel
theorem yv_X8_markOf : YV yX8_markOf cX8_markOf 4 (some .int) 1 := ⟨m1322, ms70, m9, m1323, ⟨by decide +kernel, by decide +kernel, by decide +kernel⟩, by decide⟩
noncomputable def f_X8_markOf_53 (q : Nat) (x1 : Int32) (x2 : Int32) (h : AH) : Option (Int32 × AH) := bd (f_X8_began q 21 h) (fun _ h_1 => bd (f_X8_began q 20 h_1) (fun _ h_3 => bd (f_X8_of q x1 1 h_3) (fun v_6 h_5 => lt ((x1 + v_6)) (fun v_7 => if x2 = 1 then (some (v_7, h_5)) else (if x2 = 2 then (some ((v_7 - 1000), h_5)) else (some ((2 * v_7), h_5)))))))
set_option maxRecDepth 20000 in
set_option maxHeartbeats 4000000 in
theorem t_X8_markOf_53 {z : MC} {g : GC} {A : Nat → Prop} (F : Fx z cX8_markOf 4 RX8 (some .int) 5 g A) {q : Nat} (hq : (gL g)[q]? = some (.inl 8)) : ∀ (x1 : Int32) (x2 : Int32) (h : AH), Snd z 4 g A (QF z g A mkI) 53 [(0, .ref (gad g q)), (1, .int x1), (2, .int x2)] [] h (f_X8_markOf_53 q x1 x2 h) := by
  intro x1 x2 h
  unfold f_X8_markOf_53
  refine s_aload_n F dX8_markOf_53 rfl 0 rfl ?_
  refine s_bipush F (v := 21) dX8_markOf_54 (by decide) ?_
  refine s_callVu (f := fun hh => f_X8_began q 21 hh) (As := [.int 21]) F yv_X8_began (ct_X8_began z.2.1 g hq 21) (by decide) m1312 hq rfl rfl rfl (Nat.le_of_ble_eq_true rfl) dX8_markOf_56 (fun _ h_1 e_v_2 => ?_)
  refine s_aload_n F dX8_markOf_59 rfl 0 rfl ?_
  refine s_bipush F (v := 20) dX8_markOf_60 (by decide) ?_
  refine s_callVu (f := fun hh => f_X8_began q 20 hh) (As := [.int 20]) F yv_X8_began (ct_X8_began z.2.1 g hq 20) (by decide) m1312 hq rfl rfl rfl (Nat.le_of_ble_eq_true rfl) dX8_markOf_62 (fun _ h_3 e_v_4 => ?_)
  refine s_iload_n F dX8_markOf_65 rfl 1 rfl ?_
  refine s_aload_n F dX8_markOf_66 rfl 0 rfl ?_
  refine s_iload_n F dX8_markOf_67 rfl 1 rfl ?_
  refine s_iconst F (v := 1) dX8_markOf_68 (by decide) ?_
  refine s_callVi (f := fun hh => f_X8_of q x1 1 hh) (As := [.int x1, .int 1]) F yv_X8_of (ct_X8_of z.2.1 g hq x1 1) (by decide) m1146 hq rfl rfl rfl (Nat.le_of_ble_eq_true rfl) dX8_markOf_69 (fun v_6 h_5 e_v_6 => ?_)
  refine s_iadd F dX8_markOf_72 ?_
  refine s_leti (fun v_7 => ?_)
  refine s_istore_n F (lv' := [(3, .int v_7), (0, .ref (gad g q)), (1, .int x1), (2, .int x2)]) dX8_markOf_73 rfl (by decide) rfl ?_
  refine s_iload_n F dX8_markOf_74 rfl 3 rfl ?_
  refine s_iconst F (v := 1) dX8_markOf_75 (by decide) ?_
  refine s_icmp_ne F 83 dX8_markOf_76 (by decide) (fun _ => ?_) (fun _ => ?_)
  · refine s_iload_n F dX8_markOf_83 rfl 3 rfl ?_
    refine s_iconst F (v := 2) dX8_markOf_84 (by decide) ?_
    refine s_icmp_ne F 96 dX8_markOf_85 (by decide) (fun _ => ?_) (fun _ => ?_)
    · refine s_iconst F (v := 2) dX8_markOf_96 (by decide) ?_
      refine s_iload_n F dX8_markOf_97 rfl 0 rfl ?_
      refine s_imul F dX8_markOf_98 ?_
      exact s_iret F dX8_markOf_99
    · refine s_iload_n F dX8_markOf_88 rfl 0 rfl ?_
      refine s_sipush F (v := 1000) dX8_markOf_89 (by decide) ?_
      refine s_isub F dX8_markOf_92 ?_
      refine s_goto F 99 dX8_markOf_93 (by decide) ?_
      exact s_iret F dX8_markOf_99
  · refine s_iload_n F dX8_markOf_79 rfl 0 rfl ?_
    refine s_goto F 99 dX8_markOf_80 (by decide) ?_
    exact s_iret F dX8_markOf_99
noncomputable def f_X8_markOf_50 (q : Nat) (x1 : Int32) (x2 : Int32) (y0 : Int32) (h : AH) : Option (Int32 × AH) := bd (f_X8_began q y0 h) (fun _ h_1 => f_X8_markOf_53 q x1 x2 h_1)
set_option maxRecDepth 20000 in
set_option maxHeartbeats 4000000 in
theorem t_X8_markOf_50 {z : MC} {g : GC} {A : Nat → Prop} (F : Fx z cX8_markOf 4 RX8 (some .int) 5 g A) {q : Nat} (hq : (gL g)[q]? = some (.inl 8)) : ∀ (x1 : Int32) (x2 : Int32) (y0 : Int32) (h : AH), Snd z 4 g A (QF z g A mkI) 50 [(0, .ref (gad g q)), (1, .int x1), (2, .int x2)] [.int y0, .ref (gad g q)] h (f_X8_markOf_50 q x1 x2 y0 h) := by
  intro x1 x2 y0 h
  unfold f_X8_markOf_50
  refine s_callVu (f := fun hh => f_X8_began q y0 hh) (As := [.int y0]) F yv_X8_began (ct_X8_began z.2.1 g hq y0) (by decide) m1312 hq rfl rfl rfl (Nat.le_of_ble_eq_true rfl) dX8_markOf_50 (fun _ h_1 e_v_2 => ?_)
  exact s_sub [0, 1, 2] rfl (t_X8_markOf_53 F hq x1 x2 h_1)
noncomputable def f_X8_markOf (q : Nat) (x1 : Int32) (h : AH) : Option (Int32 × AH) := bd (f_X8_of q x1 0 h) (fun v_2 h_1 => if v_2 < 4 then (if v_2 = 1 then (f_X8_markOf_53 q x1 v_2 h_1) else (if v_2 = 2 then (f_X8_markOf_50 q x1 v_2 22 h_1) else (f_X8_markOf_50 q x1 v_2 24 h_1))) else (bd (f_X8_began q 23 h_1) (fun _ h_3 => bd (f_X8_began q 20 h_3) (fun _ h_5 => bd (f_X8_cartSize q x1 h_5) (fun v_8 h_7 => some ((x1 - v_8), h_7))))))
set_option maxRecDepth 20000 in
set_option maxHeartbeats 4000000 in
theorem ct_X8_markOf (l : Launch) (g : GC) {q : Nat} (hq : (gL g)[q]? = some (.inl 8)) (x1 : Int32) : Ct l yX8_markOf cX8_markOf 4 (some .int) 5 [.ref (gad g q), .int x1] g mkI (fun h => f_X8_markOf q x1 h) := by
  refine Ct.of (by decide +kernel) (Nat.le_of_ble_eq_true rfl) (fun z A h _ F => ?_)
  show Snd z 4 g A (QF z g A mkI) 0 [(0, .ref (gad g q)), (1, .int x1)] [] h (f_X8_markOf q x1 h)
  unfold f_X8_markOf
  refine s_aload_n F dX8_markOf_0 rfl 0 rfl ?_
  refine s_iload_n F dX8_markOf_1 rfl 1 rfl ?_
  refine s_iconst F (v := 0) dX8_markOf_2 (by decide) ?_
  refine s_callVi (f := fun hh => f_X8_of q x1 0 hh) (As := [.int x1, .int 0]) F yv_X8_of (ct_X8_of z.2.1 g hq x1 0) (by decide) m1146 hq rfl rfl rfl (Nat.le_of_ble_eq_true rfl) dX8_markOf_3 (fun v_2 h_1 e_v_2 => ?_)
  refine s_istore_n F (lv' := [(2, .int v_2), (0, .ref (gad g q)), (1, .int x1)]) dX8_markOf_6 rfl (by decide) rfl ?_
  refine s_iload_n F dX8_markOf_7 rfl 0 rfl ?_
  refine s_iconst F (v := 4) dX8_markOf_8 (by decide) ?_
  refine s_icmp_lt F 32 dX8_markOf_9 (by decide) (fun _ => ?_) (fun _ => ?_)
  · refine s_iload_n F dX8_markOf_32 rfl 0 rfl ?_
    refine s_iconst F (v := 1) dX8_markOf_33 (by decide) ?_
    refine s_icmp_eq F 53 dX8_markOf_34 (by decide) (fun _ => ?_) (fun _ => ?_)
    · exact s_sub [1, 2, 0] rfl (t_X8_markOf_53 F hq x1 v_2 h_1)
    · refine s_aload_n F dX8_markOf_37 rfl 1 rfl ?_
      refine s_iload_n F dX8_markOf_38 rfl 0 rfl ?_
      refine s_iconst F (v := 2) dX8_markOf_39 (by decide) ?_
      refine s_icmp_ne F 48 dX8_markOf_40 (by decide) (fun _ => ?_) (fun _ => ?_)
      · refine s_bipush F (v := 24) dX8_markOf_48 (by decide) ?_
        exact s_sub [1, 2, 0] rfl (t_X8_markOf_50 F hq x1 v_2 24 h_1)
      · refine s_bipush F (v := 22) dX8_markOf_43 (by decide) ?_
        refine s_goto F 50 dX8_markOf_45 (by decide) ?_
        exact s_sub [1, 2, 0] rfl (t_X8_markOf_50 F hq x1 v_2 22 h_1)
  · refine s_aload_n F dX8_markOf_12 rfl 1 rfl ?_
    refine s_bipush F (v := 23) dX8_markOf_13 (by decide) ?_
    refine s_callVu (f := fun hh => f_X8_began q 23 hh) (As := [.int 23]) F yv_X8_began (ct_X8_began z.2.1 g hq 23) (by decide) m1312 hq rfl rfl rfl (Nat.le_of_ble_eq_true rfl) dX8_markOf_15 (fun _ h_3 e_v_4 => ?_)
    refine s_aload_n F dX8_markOf_18 rfl 1 rfl ?_
    refine s_bipush F (v := 20) dX8_markOf_19 (by decide) ?_
    refine s_callVu (f := fun hh => f_X8_began q 20 hh) (As := [.int 20]) F yv_X8_began (ct_X8_began z.2.1 g hq 20) (by decide) m1312 hq rfl rfl rfl (Nat.le_of_ble_eq_true rfl) dX8_markOf_21 (fun _ h_5 e_v_6 => ?_)
    refine s_iload_n F dX8_markOf_24 rfl 2 rfl ?_
    refine s_aload_n F dX8_markOf_25 rfl 1 rfl ?_
    refine s_iload_n F dX8_markOf_26 rfl 2 rfl ?_
    refine s_callVi (f := fun hh => f_X8_cartSize q x1 hh) (As := [.int x1]) F yv_X8_cartSize (ct_X8_cartSize z.2.1 g hq x1) (by decide) m1308 hq rfl rfl rfl (Nat.le_of_ble_eq_true rfl) dX8_markOf_27 (fun v_8 h_7 e_v_8 => ?_)
    refine s_isub F dX8_markOf_30 ?_
    exact s_iret F dX8_markOf_31
theorem dX8_sizeOf_0 : decode cX8_sizeOf 0 = .ok (.aload_n 0, 1) := by decide +kernel
theorem dX8_sizeOf_1 : decode cX8_sizeOf 1 = .ok (.iload_n 1, 1) := by decide +kernel
theorem dX8_sizeOf_2 : decode cX8_sizeOf 2 = .ok (.iconst 0, 1) := by decide +kernel
theorem dX8_sizeOf_3 : decode cX8_sizeOf 3 = .ok (.invokevirtual 206, 3) := by decide +kernel
theorem dX8_sizeOf_6 : decode cX8_sizeOf 6 = .ok (.istore_n 2, 1) := by decide +kernel
theorem dX8_sizeOf_7 : decode cX8_sizeOf 7 = .ok (.iload_n 2, 1) := by decide +kernel
theorem dX8_sizeOf_8 : decode cX8_sizeOf 8 = .ok (.iconst 4, 1) := by decide +kernel
theorem dX8_sizeOf_9 : decode cX8_sizeOf 9 = .ok (.if_icmp .lt 9, 3) := by decide +kernel
theorem dX8_sizeOf_12 : decode cX8_sizeOf 12 = .ok (.aload_n 0, 1) := by decide +kernel
theorem dX8_sizeOf_13 : decode cX8_sizeOf 13 = .ok (.iload_n 1, 1) := by decide +kernel
theorem dX8_sizeOf_14 : decode cX8_sizeOf 14 = .ok (.invokevirtual 325, 3) := by decide +kernel
theorem dX8_sizeOf_17 : decode cX8_sizeOf 17 = .ok (.ireturn, 1) := by decide +kernel
theorem dX8_sizeOf_18 : decode cX8_sizeOf 18 = .ok (.iload_n 2, 1) := by decide +kernel
theorem dX8_sizeOf_19 : decode cX8_sizeOf 19 = .ok (.iconst 3, 1) := by decide +kernel
theorem dX8_sizeOf_20 : decode cX8_sizeOf 20 = .ok (.if_icmp .ne 9, 3) := by decide +kernel
theorem dX8_sizeOf_23 : decode cX8_sizeOf 23 = .ok (.aload_n 0, 1) := by decide +kernel
theorem dX8_sizeOf_24 : decode cX8_sizeOf 24 = .ok (.bipush 12, 2) := by decide +kernel
theorem dX8_sizeOf_26 : decode cX8_sizeOf 26 = .ok (.invokevirtual 319, 3) := by decide +kernel
theorem dX8_sizeOf_29 : decode cX8_sizeOf 29 = .ok (.aload_n 0, 1) := by decide +kernel
theorem dX8_sizeOf_30 : decode cX8_sizeOf 30 = .ok (.bipush 11, 2) := by decide +kernel
theorem dX8_sizeOf_32 : decode cX8_sizeOf 32 = .ok (.invokevirtual 319, 3) := by decide +kernel
theorem dX8_sizeOf_35 : decode cX8_sizeOf 35 = .ok (.aload_n 0, 1) := by decide +kernel
theorem dX8_sizeOf_36 : decode cX8_sizeOf 36 = .ok (.iload_n 1, 1) := by decide +kernel
theorem dX8_sizeOf_37 : decode cX8_sizeOf 37 = .ok (.invokevirtual 322, 3) := by decide +kernel
theorem dX8_sizeOf_40 : decode cX8_sizeOf 40 = .ok (.istore_n 3, 1) := by decide +kernel
theorem dX8_sizeOf_41 : decode cX8_sizeOf 41 = .ok (.iload_n 3, 1) := by decide +kernel
theorem dX8_sizeOf_42 : decode cX8_sizeOf 42 = .ok (.aload_n 0, 1) := by decide +kernel
theorem dX8_sizeOf_43 : decode cX8_sizeOf 43 = .ok (.iload_n 1, 1) := by decide +kernel
theorem dX8_sizeOf_44 : decode cX8_sizeOf 44 = .ok (.invokevirtual 328, 3) := by decide +kernel
theorem dX8_sizeOf_47 : decode cX8_sizeOf 47 = .ok (.iadd, 1) := by decide +kernel
theorem dX8_sizeOf_48 : decode cX8_sizeOf 48 = .ok (.istore_n 3, 1) := by decide +kernel
theorem dX8_sizeOf_49 : decode cX8_sizeOf 49 = .ok (.iload_n 2, 1) := by decide +kernel
theorem dX8_sizeOf_50 : decode cX8_sizeOf 50 = .ok (.iconst 3, 1) := by decide +kernel
theorem dX8_sizeOf_51 : decode cX8_sizeOf 51 = .ok (.if_icmp .ne 8, 3) := by decide +kernel
theorem dX8_sizeOf_54 : decode cX8_sizeOf 54 = .ok (.iload_n 3, 1) := by decide +kernel
theorem dX8_sizeOf_55 : decode cX8_sizeOf 55 = .ok (.ineg, 1) := by decide +kernel
theorem dX8_sizeOf_56 : decode cX8_sizeOf 56 = .ok (.goto 4, 3) := by decide +kernel
theorem dX8_sizeOf_59 : decode cX8_sizeOf 59 = .ok (.iload_n 3, 1) := by decide +kernel
theorem dX8_sizeOf_60 : decode cX8_sizeOf 60 = .ok (.ireturn, 1) := by decide +kernel
theorem yv_X8_sizeOf : YV yX8_sizeOf cX8_sizeOf 4 (some .int) 1 := ⟨m1306, ms66, m9, m1307, ⟨by decide +kernel, by decide +kernel, by decide +kernel⟩, by decide⟩
noncomputable def f_X8_sizeOf_29 (q : Nat) (x1 : Int32) (x2 : Int32) (h : AH) : Option (Int32 × AH) := bd (f_X8_began q 11 h) (fun _ h_1 => bd (f_X8_plainSize q x1 h_1) (fun v_4 h_3 => bd (f_X8_markOf q x1 h_3) (fun v_6 h_5 => lt ((v_4 + v_6)) (fun v_7 => if x2 = 3 then (some ((-v_7), h_5)) else (some (v_7, h_5))))))
set_option maxRecDepth 20000 in
set_option maxHeartbeats 4000000 in
theorem t_X8_sizeOf_29 {z : MC} {g : GC} {A : Nat → Prop} (F : Fx z cX8_sizeOf 4 RX8 (some .int) 6 g A) {q : Nat} (hq : (gL g)[q]? = some (.inl 8)) : ∀ (x1 : Int32) (x2 : Int32) (h : AH), Snd z 4 g A (QF z g A mkI) 29 [(0, .ref (gad g q)), (1, .int x1), (2, .int x2)] [] h (f_X8_sizeOf_29 q x1 x2 h) := by
  intro x1 x2 h
  unfold f_X8_sizeOf_29
  refine s_aload_n F dX8_sizeOf_29 rfl 0 rfl ?_
  refine s_bipush F (v := 11) dX8_sizeOf_30 (by decide) ?_
  refine s_callVu (f := fun hh => f_X8_began q 11 hh) (As := [.int 11]) F yv_X8_began (ct_X8_began z.2.1 g hq 11) (by decide) m1312 hq rfl rfl rfl (Nat.le_of_ble_eq_true rfl) dX8_sizeOf_32 (fun _ h_1 e_v_2 => ?_)
  refine s_aload_n F dX8_sizeOf_35 rfl 0 rfl ?_
  refine s_iload_n F dX8_sizeOf_36 rfl 1 rfl ?_
  refine s_callVi (f := fun hh => f_X8_plainSize q x1 hh) (As := [.int x1]) F yv_X8_plainSize (ct_X8_plainSize z.2.1 g hq x1) (by decide) m1316 hq rfl rfl rfl (Nat.le_of_ble_eq_true rfl) dX8_sizeOf_37 (fun v_4 h_3 e_v_4 => ?_)
  refine s_istore_n F (lv' := [(3, .int v_4), (0, .ref (gad g q)), (1, .int x1), (2, .int x2)]) dX8_sizeOf_40 rfl (by decide) rfl ?_
  refine s_iload_n F dX8_sizeOf_41 rfl 0 rfl ?_
  refine s_aload_n F dX8_sizeOf_42 rfl 1 rfl ?_
  refine s_iload_n F dX8_sizeOf_43 rfl 2 rfl ?_
  refine s_callVi (f := fun hh => f_X8_markOf q x1 hh) (As := [.int x1]) F yv_X8_markOf (ct_X8_markOf z.2.1 g hq x1) (by decide) m1320 hq rfl rfl rfl (Nat.le_of_ble_eq_true rfl) dX8_sizeOf_44 (fun v_6 h_5 e_v_6 => ?_)
  refine s_iadd F dX8_sizeOf_47 ?_
  refine s_leti (fun v_7 => ?_)
  refine s_istore_n F (lv' := [(3, .int v_7), (0, .ref (gad g q)), (1, .int x1), (2, .int x2)]) dX8_sizeOf_48 rfl (by decide) rfl ?_
  refine s_iload_n F dX8_sizeOf_49 rfl 3 rfl ?_
  refine s_iconst F (v := 3) dX8_sizeOf_50 (by decide) ?_
  refine s_icmp_ne F 59 dX8_sizeOf_51 (by decide) (fun _ => ?_) (fun _ => ?_)
  · refine s_iload_n F dX8_sizeOf_59 rfl 0 rfl ?_
    exact s_iret F dX8_sizeOf_60
  · refine s_iload_n F dX8_sizeOf_54 rfl 0 rfl ?_
    refine s_ineg F dX8_sizeOf_55 ?_
    refine s_goto F 60 dX8_sizeOf_56 (by decide) ?_
    exact s_iret F dX8_sizeOf_60
noncomputable def f_X8_sizeOf (q : Nat) (x1 : Int32) (h : AH) : Option (Int32 × AH) := bd (f_X8_of q x1 0 h) (fun v_2 h_1 => if v_2 < 4 then (if v_2 = 3 then (bd (f_X8_began q 12 h_1) (fun _ h_3 => f_X8_sizeOf_29 q x1 v_2 h_3)) else (f_X8_sizeOf_29 q x1 v_2 h_1)) else (bd (f_X8_cartSize q x1 h_1) (fun v_6 h_5 => some (v_6, h_5))))
set_option maxRecDepth 20000 in
set_option maxHeartbeats 4000000 in
theorem ct_X8_sizeOf (l : Launch) (g : GC) {q : Nat} (hq : (gL g)[q]? = some (.inl 8)) (x1 : Int32) : Ct l yX8_sizeOf cX8_sizeOf 4 (some .int) 6 [.ref (gad g q), .int x1] g mkI (fun h => f_X8_sizeOf q x1 h) := by
  refine Ct.of (by decide +kernel) (Nat.le_of_ble_eq_true rfl) (fun z A h _ F => ?_)
  show Snd z 4 g A (QF z g A mkI) 0 [(0, .ref (gad g q)), (1, .int x1)] [] h (f_X8_sizeOf q x1 h)
  unfold f_X8_sizeOf
  refine s_aload_n F dX8_sizeOf_0 rfl 0 rfl ?_
  refine s_iload_n F dX8_sizeOf_1 rfl 1 rfl ?_
  refine s_iconst F (v := 0) dX8_sizeOf_2 (by decide) ?_
  refine s_callVi (f := fun hh => f_X8_of q x1 0 hh) (As := [.int x1, .int 0]) F yv_X8_of (ct_X8_of z.2.1 g hq x1 0) (by decide) m1146 hq rfl rfl rfl (Nat.le_of_ble_eq_true rfl) dX8_sizeOf_3 (fun v_2 h_1 e_v_2 => ?_)
  refine s_istore_n F (lv' := [(2, .int v_2), (0, .ref (gad g q)), (1, .int x1)]) dX8_sizeOf_6 rfl (by decide) rfl ?_
  refine s_iload_n F dX8_sizeOf_7 rfl 0 rfl ?_
  refine s_iconst F (v := 4) dX8_sizeOf_8 (by decide) ?_
  refine s_icmp_lt F 18 dX8_sizeOf_9 (by decide) (fun _ => ?_) (fun _ => ?_)
  · refine s_iload_n F dX8_sizeOf_18 rfl 0 rfl ?_
    refine s_iconst F (v := 3) dX8_sizeOf_19 (by decide) ?_
    refine s_icmp_ne F 29 dX8_sizeOf_20 (by decide) (fun _ => ?_) (fun _ => ?_)
    · exact s_sub [1, 2, 0] rfl (t_X8_sizeOf_29 F hq x1 v_2 h_1)
    · refine s_aload_n F dX8_sizeOf_23 rfl 1 rfl ?_
      refine s_bipush F (v := 12) dX8_sizeOf_24 (by decide) ?_
      refine s_callVu (f := fun hh => f_X8_began q 12 hh) (As := [.int 12]) F yv_X8_began (ct_X8_began z.2.1 g hq 12) (by decide) m1312 hq rfl rfl rfl (Nat.le_of_ble_eq_true rfl) dX8_sizeOf_26 (fun _ h_3 e_v_4 => ?_)
      exact s_sub [1, 2, 0] rfl (t_X8_sizeOf_29 F hq x1 v_2 h_3)
  · refine s_aload_n F dX8_sizeOf_12 rfl 1 rfl ?_
    refine s_iload_n F dX8_sizeOf_13 rfl 2 rfl ?_
    refine s_callVi (f := fun hh => f_X8_cartSize q x1 hh) (As := [.int x1]) F yv_X8_cartSize (ct_X8_cartSize z.2.1 g hq x1) (by decide) m1308 hq rfl rfl rfl (Nat.le_of_ble_eq_true rfl) dX8_sizeOf_14 (fun v_6 h_5 e_v_6 => ?_)
    exact s_iret F dX8_sizeOf_17
theorem dX8_ask_0 : decode cX8_ask 0 = .ok (.aload_n 0, 1) := by decide +kernel
theorem dX8_ask_1 : decode cX8_ask 1 = .ok (.iconst 0, 1) := by decide +kernel
theorem dX8_ask_2 : decode cX8_ask 2 = .ok (.putfield 65, 3) := by decide +kernel
theorem dX8_ask_5 : decode cX8_ask 5 = .ok (.aload_n 0, 1) := by decide +kernel
theorem dX8_ask_6 : decode cX8_ask 6 = .ok (.iload_n 1, 1) := by decide +kernel
theorem dX8_ask_7 : decode cX8_ask 7 = .ok (.invokevirtual 237, 3) := by decide +kernel
theorem dX8_ask_10 : decode cX8_ask 10 = .ok (.ifCond .eq 13, 3) := by decide +kernel
theorem dX8_ask_13 : decode cX8_ask 13 = .ok (.iload_n 2, 1) := by decide +kernel
theorem dX8_ask_14 : decode cX8_ask 14 = .ok (.i2l, 1) := by decide +kernel
theorem dX8_ask_15 : decode cX8_ask 15 = .ok (.lconst 0, 1) := by decide +kernel
theorem dX8_ask_16 : decode cX8_ask 16 = .ok (.lconst 1, 1) := by decide +kernel
theorem dX8_ask_17 : decode cX8_ask 17 = .ok (.invokestatic 75, 3) := by decide +kernel
theorem dX8_ask_20 : decode cX8_ask 20 = .ok (.ifCond .ne 6, 3) := by decide +kernel
theorem dX8_ask_23 : decode cX8_ask 23 = .ok (.ldc 85, 2) := by decide +kernel
theorem dX8_ask_25 : decode cX8_ask 25 = .ok (.ireturn, 1) := by decide +kernel
theorem dX8_ask_26 : decode cX8_ask 26 = .ok (.aload_n 0, 1) := by decide +kernel
theorem dX8_ask_27 : decode cX8_ask 27 = .ok (.iconst 0, 1) := by decide +kernel
theorem dX8_ask_28 : decode cX8_ask 28 = .ok (.putfield 316, 3) := by decide +kernel
theorem dX8_ask_31 : decode cX8_ask 31 = .ok (.iload_n 2, 1) := by decide +kernel
theorem dX8_ask_32 : decode cX8_ask 32 = .ok (.ifCond .ne 11, 3) := by decide +kernel
theorem dX8_ask_35 : decode cX8_ask 35 = .ok (.aload_n 0, 1) := by decide +kernel
theorem dX8_ask_36 : decode cX8_ask 36 = .ok (.iload_n 1, 1) := by decide +kernel
theorem dX8_ask_37 : decode cX8_ask 37 = .ok (.invokevirtual 331, 3) := by decide +kernel
theorem dX8_ask_40 : decode cX8_ask 40 = .ok (.goto 8, 3) := by decide +kernel
theorem dX8_ask_43 : decode cX8_ask 43 = .ok (.aload_n 0, 1) := by decide +kernel
theorem dX8_ask_44 : decode cX8_ask 44 = .ok (.iload_n 1, 1) := by decide +kernel
theorem dX8_ask_45 : decode cX8_ask 45 = .ok (.invokevirtual 328, 3) := by decide +kernel
theorem dX8_ask_48 : decode cX8_ask 48 = .ok (.ireturn, 1) := by decide +kernel
theorem yv_X8_ask : YV yX8_ask cX8_ask 3 (some .int) 2 := ⟨m1301, m1302, m9, m1303, ⟨by decide +kernel, by decide +kernel, by decide +kernel⟩, by decide⟩
noncomputable def f_X8_ask (q : Nat) (x1 : Int32) (x2 : Int32) (h : AH) : Option (Int32 × AH) := lt (hset h q 0 0) (fun h_1 => bd (f_X8_isBoat q x1 h_1) (fun v_3 h_2 => if v_3 = 0 then (some ((-1000001), h_2)) else (bd (f_X8_in ((x2 : Int32).toInt64) 0 1 h_2) (fun v_5 h_4 => if v_5 = 0 then (some ((-1000001), h_4)) else (lt (hset h_4 q 33 0) (fun h_6 => if x2 = 0 then (bd (f_X8_sizeOf q x1 h_6) (fun v_10 h_9 => some (v_10, h_9))) else (bd (f_X8_markOf q x1 h_6) (fun v_8 h_7 => some (v_8, h_7)))))))))
set_option maxRecDepth 20000 in
set_option maxHeartbeats 4000000 in
theorem ct_X8_ask (l : Launch) (g : GC) {q : Nat} (hq : (gL g)[q]? = some (.inl 8)) (x1 : Int32) (x2 : Int32) : Ct l yX8_ask cX8_ask 3 (some .int) 7 [.ref (gad g q), .int x1, .int x2] g mkI (fun h => f_X8_ask q x1 x2 h) := by
  refine Ct.of (by decide +kernel) (Nat.le_of_ble_eq_true rfl) (fun z A h _ F => ?_)
  show Snd z 3 g A (QF z g A mkI) 0 [(0, .ref (gad g q)), (1, .int x1), (2, .int x2)] [] h (f_X8_ask q x1 x2 h)
  unfold f_X8_ask
  refine s_aload_n F dX8_ask_0 rfl 0 rfl ?_
  refine s_iconst F (v := 0) dX8_ask_1 (by decide) ?_
  refine s_put F ciX8 (k := 0) hq (by decide) rfl rfl rfl rfl m893 dX8_ask_2 ?_
  refine s_letH (fun h_1 => ?_)
  refine s_aload_n F dX8_ask_5 rfl 0 rfl ?_
  refine s_iload_n F dX8_ask_6 rfl 1 rfl ?_
  refine s_callVi (f := fun hh => f_X8_isBoat q x1 hh) (As := [.int x1]) F yv_X8_isBoat (ct_X8_isBoat z.2.1 g hq x1) (by decide) m1138 hq rfl rfl rfl (Nat.le_of_ble_eq_true rfl) dX8_ask_7 (fun v_3 h_2 e_v_3 => ?_)
  refine s_if_eq F 23 dX8_ask_10 (by decide) (fun _ => ?_) (fun _ => ?_)
  · refine s_ldc F (v := (-1000001)) dX8_ask_23 m1009 ?_
    exact s_iret F dX8_ask_25
  · refine s_iload_n F dX8_ask_13 rfl 2 rfl ?_
    refine s_i2l F dX8_ask_14 ?_
    refine s_lconst F (v := 0) dX8_ask_15 (by decide) ?_
    refine s_lconst F (v := 1) dX8_ask_16 (by decide) ?_
    refine s_callSi (f := fun hh => f_X8_in ((x2 : Int32).toInt64) 0 1 hh) (As := [.long ((x2 : Int32).toInt64), .long 0, .long 1]) F ys_X8_in (ct_X8_in z.2.1 g ((x2 : Int32).toInt64) 0 1) (by decide) m1005 rfl rfl (Nat.le_of_ble_eq_true rfl) dX8_ask_17 (fun v_5 h_4 e_v_5 => ?_)
    refine s_if_ne F 26 dX8_ask_20 (by decide) (fun _ => ?_) (fun _ => ?_)
    · refine s_aload_n F dX8_ask_26 rfl 0 rfl ?_
      refine s_iconst F (v := 0) dX8_ask_27 (by decide) ?_
      refine s_put F ciX8 (k := 33) hq (by decide) rfl rfl rfl rfl m926 dX8_ask_28 ?_
      refine s_letH (fun h_6 => ?_)
      refine s_iload_n F dX8_ask_31 rfl 2 rfl ?_
      refine s_if_ne F 43 dX8_ask_32 (by decide) (fun _ => ?_) (fun _ => ?_)
      · refine s_aload_n F dX8_ask_43 rfl 0 rfl ?_
        refine s_iload_n F dX8_ask_44 rfl 1 rfl ?_
        refine s_callVi (f := fun hh => f_X8_markOf q x1 hh) (As := [.int x1]) F yv_X8_markOf (ct_X8_markOf z.2.1 g hq x1) (by decide) m1320 hq rfl rfl rfl (Nat.le_of_ble_eq_true rfl) dX8_ask_45 (fun v_8 h_7 e_v_8 => ?_)
        exact s_iret F dX8_ask_48
      · refine s_aload_n F dX8_ask_35 rfl 0 rfl ?_
        refine s_iload_n F dX8_ask_36 rfl 1 rfl ?_
        refine s_callVi (f := fun hh => f_X8_sizeOf q x1 hh) (As := [.int x1]) F yv_X8_sizeOf (ct_X8_sizeOf z.2.1 g hq x1) (by decide) m1304 hq rfl rfl rfl (Nat.le_of_ble_eq_true rfl) dX8_ask_37 (fun v_10 h_9 e_v_10 => ?_)
        refine s_goto F 48 dX8_ask_40 (by decide) ?_
        exact s_iret F dX8_ask_48
    · refine s_ldc F (v := (-1000001)) dX8_ask_23 m1009 ?_
      exact s_iret F dX8_ask_25
theorem dX8_trace_0 : decode cX8_trace 0 = .ok (.aload_n 0, 1) := by decide +kernel
theorem dX8_trace_1 : decode cX8_trace 1 = .ok (.iconst 0, 1) := by decide +kernel
theorem dX8_trace_2 : decode cX8_trace 2 = .ok (.putfield 65, 3) := by decide +kernel
theorem dX8_trace_5 : decode cX8_trace 5 = .ok (.iload_n 1, 1) := by decide +kernel
theorem dX8_trace_6 : decode cX8_trace 6 = .ok (.i2l, 1) := by decide +kernel
theorem dX8_trace_7 : decode cX8_trace 7 = .ok (.lconst 0, 1) := by decide +kernel
theorem dX8_trace_8 : decode cX8_trace 8 = .ok (.aload_n 0, 1) := by decide +kernel
theorem dX8_trace_9 : decode cX8_trace 9 = .ok (.getfield 316, 3) := by decide +kernel
theorem dX8_trace_12 : decode cX8_trace 12 = .ok (.iconst 1, 1) := by decide +kernel
theorem dX8_trace_13 : decode cX8_trace 13 = .ok (.isub, 1) := by decide +kernel
theorem dX8_trace_14 : decode cX8_trace 14 = .ok (.i2l, 1) := by decide +kernel
theorem dX8_trace_15 : decode cX8_trace 15 = .ok (.invokestatic 75, 3) := by decide +kernel
theorem dX8_trace_18 : decode cX8_trace 18 = .ok (.ifCond .eq 12, 3) := by decide +kernel
theorem dX8_trace_21 : decode cX8_trace 21 = .ok (.aload_n 0, 1) := by decide +kernel
theorem dX8_trace_22 : decode cX8_trace 22 = .ok (.getfield 62, 3) := by decide +kernel
theorem dX8_trace_25 : decode cX8_trace 25 = .ok (.iload_n 1, 1) := by decide +kernel
theorem dX8_trace_26 : decode cX8_trace 26 = .ok (.iaload, 1) := by decide +kernel
theorem dX8_trace_27 : decode cX8_trace 27 = .ok (.goto 5, 3) := by decide +kernel
theorem dX8_trace_30 : decode cX8_trace 30 = .ok (.ldc 101, 2) := by decide +kernel
theorem dX8_trace_32 : decode cX8_trace 32 = .ok (.ireturn, 1) := by decide +kernel
theorem yv_X8_trace : YV yX8_trace cX8_trace 2 (some .int) 1 := ⟨m1325, m1326, m9, m1327, ⟨by decide +kernel, by decide +kernel, by decide +kernel⟩, by decide⟩
noncomputable def f_X8_trace (q : Nat) (x1 : Int32) (h : AH) : Option (Int32 × AH) := lt (hset h q 0 0) (fun h_1 => bd (f_X8_in ((x1 : Int32).toInt64) 0 ((((h_1 q 33) - 1) : Int32).toInt64) h_1) (fun v_3 h_2 => if v_3 = 0 then (some ((-1000000), h_2)) else (ck x1 16 (some (h_2 (q + 18) (x1 : Int32).toNatClampNeg, h_2)))))
set_option maxRecDepth 20000 in
set_option maxHeartbeats 4000000 in
theorem ct_X8_trace (l : Launch) (g : GC) {q : Nat} (hq : (gL g)[q]? = some (.inl 8)) (x1 : Int32) : Ct l yX8_trace cX8_trace 2 (some .int) 2 [.ref (gad g q), .int x1] g mkI (fun h => f_X8_trace q x1 h) := by
  refine Ct.of (by decide +kernel) (Nat.le_of_ble_eq_true rfl) (fun z A h _ F => ?_)
  show Snd z 2 g A (QF z g A mkI) 0 [(0, .ref (gad g q)), (1, .int x1)] [] h (f_X8_trace q x1 h)
  unfold f_X8_trace
  refine s_aload_n F dX8_trace_0 rfl 0 rfl ?_
  refine s_iconst F (v := 0) dX8_trace_1 (by decide) ?_
  refine s_put F ciX8 (k := 0) hq (by decide) rfl rfl rfl rfl m893 dX8_trace_2 ?_
  refine s_letH (fun h_1 => ?_)
  refine s_iload_n F dX8_trace_5 rfl 1 rfl ?_
  refine s_i2l F dX8_trace_6 ?_
  refine s_lconst F (v := 0) dX8_trace_7 (by decide) ?_
  refine s_aload_n F dX8_trace_8 rfl 0 rfl ?_
  refine s_geti F ciX8 33 hq (by decide) rfl rfl m926 dX8_trace_9 ?_
  refine s_iconst F (v := 1) dX8_trace_12 (by decide) ?_
  refine s_isub F dX8_trace_13 ?_
  refine s_i2l F dX8_trace_14 ?_
  refine s_callSi (f := fun hh => f_X8_in ((x1 : Int32).toInt64) 0 ((((h_1 q 33) - 1) : Int32).toInt64) hh) (As := [.long ((x1 : Int32).toInt64), .long 0, .long ((((h_1 q 33) - 1) : Int32).toInt64)]) F ys_X8_in (ct_X8_in z.2.1 g ((x1 : Int32).toInt64) 0 ((((h_1 q 33) - 1) : Int32).toInt64)) (by decide) m1005 rfl rfl (Nat.le_of_ble_eq_true rfl) dX8_trace_15 (fun v_3 h_2 e_v_3 => ?_)
  refine s_if_eq F 30 dX8_trace_18 (by decide) (fun _ => ?_) (fun _ => ?_)
  · refine s_ldc F (v := (-1000000)) dX8_trace_30 m1050 ?_
    exact s_iret F dX8_trace_32
  · refine s_aload_n F dX8_trace_21 rfl 0 rfl ?_
    have hw_4 := wf_ref F.2.2.2.2.2.2.1 hq 32 18 (.inr (0, 16)) rfl
    refine s_getr F ciX8 32 18 (.inr (0, 16)) hq (by decide) rfl rfl m925 dX8_trace_22 ?_
    refine s_iload_n F dX8_trace_25 rfl 1 rfl ?_
    refine s_iald F hw_4 dX8_trace_26 ?_
    refine s_goto F 32 dX8_trace_27 (by decide) ?_
    exact s_iret F dX8_trace_32
theorem dX8_count_0 : decode cX8_count 0 = .ok (.aload_n 0, 1) := by decide +kernel
theorem dX8_count_1 : decode cX8_count 1 = .ok (.iconst 0, 1) := by decide +kernel
theorem dX8_count_2 : decode cX8_count 2 = .ok (.putfield 65, 3) := by decide +kernel
theorem dX8_count_5 : decode cX8_count 5 = .ok (.iconst 0, 1) := by decide +kernel
theorem dX8_count_6 : decode cX8_count 6 = .ok (.istore_n 2, 1) := by decide +kernel
theorem dX8_count_7 : decode cX8_count 7 = .ok (.iload_n 1, 1) := by decide +kernel
theorem dX8_count_8 : decode cX8_count 8 = .ok (.tableswitch 137 0 7 #[48, 81, 81, 81, 90, 95, 125, 132], 48) := by decide +kernel
theorem dX8_count_56 : decode cX8_count 56 = .ok (.iconst 0, 1) := by decide +kernel
theorem dX8_count_57 : decode cX8_count 57 = .ok (.istore_n 3, 1) := by decide +kernel
theorem dX8_count_58 : decode cX8_count 58 = .ok (.iload_n 3, 1) := by decide +kernel
theorem dX8_count_59 : decode cX8_count 59 = .ok (.bipush 8, 2) := by decide +kernel
theorem dX8_count_61 : decode cX8_count 61 = .ok (.if_icmp .ge 26, 3) := by decide +kernel
theorem dX8_count_64 : decode cX8_count 64 = .ok (.iload_n 2, 1) := by decide +kernel
theorem dX8_count_65 : decode cX8_count 65 = .ok (.aload_n 0, 1) := by decide +kernel
theorem dX8_count_66 : decode cX8_count 66 = .ok (.getfield 7, 3) := by decide +kernel
theorem dX8_count_69 : decode cX8_count 69 = .ok (.iload_n 3, 1) := by decide +kernel
theorem dX8_count_70 : decode cX8_count 70 = .ok (.iaload, 1) := by decide +kernel
theorem dX8_count_71 : decode cX8_count 71 = .ok (.ifCond .lt 7, 3) := by decide +kernel
theorem dX8_count_74 : decode cX8_count 74 = .ok (.iconst 1, 1) := by decide +kernel
theorem dX8_count_75 : decode cX8_count 75 = .ok (.goto 4, 3) := by decide +kernel
theorem dX8_count_78 : decode cX8_count 78 = .ok (.iconst 0, 1) := by decide +kernel
theorem dX8_count_79 : decode cX8_count 79 = .ok (.iadd, 1) := by decide +kernel
theorem dX8_count_80 : decode cX8_count 80 = .ok (.istore_n 2, 1) := by decide +kernel
theorem dX8_count_81 : decode cX8_count 81 = .ok (.iinc 3 1, 3) := by decide +kernel
theorem dX8_count_84 : decode cX8_count 84 = .ok (.goto (-26), 3) := by decide +kernel
theorem dX8_count_87 : decode cX8_count 87 = .ok (.iload_n 2, 1) := by decide +kernel
theorem dX8_count_88 : decode cX8_count 88 = .ok (.ireturn, 1) := by decide +kernel
theorem dX8_count_89 : decode cX8_count 89 = .ok (.aload_n 0, 1) := by decide +kernel
theorem dX8_count_90 : decode cX8_count 90 = .ok (.getfield 19, 3) := by decide +kernel
theorem dX8_count_93 : decode cX8_count 93 = .ok (.iload_n 1, 1) := by decide +kernel
theorem dX8_count_94 : decode cX8_count 94 = .ok (.iconst 1, 1) := by decide +kernel
theorem dX8_count_95 : decode cX8_count 95 = .ok (.isub, 1) := by decide +kernel
theorem dX8_count_96 : decode cX8_count 96 = .ok (.iaload, 1) := by decide +kernel
theorem dX8_count_97 : decode cX8_count 97 = .ok (.ireturn, 1) := by decide +kernel
theorem dX8_count_98 : decode cX8_count 98 = .ok (.aload_n 0, 1) := by decide +kernel
theorem dX8_count_99 : decode cX8_count 99 = .ok (.getfield 199, 3) := by decide +kernel
theorem dX8_count_102 : decode cX8_count 102 = .ok (.ireturn, 1) := by decide +kernel
theorem dX8_count_103 : decode cX8_count 103 = .ok (.iconst 0, 1) := by decide +kernel
theorem dX8_count_104 : decode cX8_count 104 = .ok (.istore_n 3, 1) := by decide +kernel
theorem dX8_count_105 : decode cX8_count 105 = .ok (.iload_n 3, 1) := by decide +kernel
theorem dX8_count_106 : decode cX8_count 106 = .ok (.aload_n 0, 1) := by decide +kernel
theorem dX8_count_107 : decode cX8_count 107 = .ok (.getfield 19, 3) := by decide +kernel
theorem dX8_count_110 : decode cX8_count 110 = .ok (.iconst 1, 1) := by decide +kernel
theorem dX8_count_111 : decode cX8_count 111 = .ok (.iaload, 1) := by decide +kernel
theorem dX8_count_112 : decode cX8_count 112 = .ok (.if_icmp .ge 19, 3) := by decide +kernel
theorem dX8_count_115 : decode cX8_count 115 = .ok (.iload_n 2, 1) := by decide +kernel
theorem dX8_count_116 : decode cX8_count 116 = .ok (.aload_n 0, 1) := by decide +kernel
theorem dX8_count_117 : decode cX8_count 117 = .ok (.iload_n 3, 1) := by decide +kernel
theorem dX8_count_118 : decode cX8_count 118 = .ok (.bipush 6, 2) := by decide +kernel
theorem dX8_count_120 : decode cX8_count 120 = .ok (.invokevirtual 206, 3) := by decide +kernel
theorem dX8_count_123 : decode cX8_count 123 = .ok (.iadd, 1) := by decide +kernel
theorem dX8_count_124 : decode cX8_count 124 = .ok (.istore_n 2, 1) := by decide +kernel
theorem dX8_count_125 : decode cX8_count 125 = .ok (.iinc 3 1, 3) := by decide +kernel
theorem dX8_count_128 : decode cX8_count 128 = .ok (.goto (-23), 3) := by decide +kernel
theorem dX8_count_131 : decode cX8_count 131 = .ok (.iload_n 2, 1) := by decide +kernel
theorem dX8_count_132 : decode cX8_count 132 = .ok (.ireturn, 1) := by decide +kernel
theorem dX8_count_133 : decode cX8_count 133 = .ok (.aload_n 0, 1) := by decide +kernel
theorem dX8_count_134 : decode cX8_count 134 = .ok (.getfield 19, 3) := by decide +kernel
theorem dX8_count_137 : decode cX8_count 137 = .ok (.iconst 3, 1) := by decide +kernel
theorem dX8_count_138 : decode cX8_count 138 = .ok (.iaload, 1) := by decide +kernel
theorem dX8_count_139 : decode cX8_count 139 = .ok (.ireturn, 1) := by decide +kernel
theorem dX8_count_140 : decode cX8_count 140 = .ok (.aload_n 0, 1) := by decide +kernel
theorem dX8_count_141 : decode cX8_count 141 = .ok (.getfield 92, 3) := by decide +kernel
theorem dX8_count_144 : decode cX8_count 144 = .ok (.ireturn, 1) := by decide +kernel
theorem dX8_count_145 : decode cX8_count 145 = .ok (.ldc 85, 2) := by decide +kernel
theorem dX8_count_147 : decode cX8_count 147 = .ok (.ireturn, 1) := by decide +kernel
theorem yv_X8_count : YV yX8_count cX8_count 4 (some .int) 1 := ⟨m1329, m1330, m9, m1331, ⟨by decide +kernel, by decide +kernel, by decide +kernel⟩, by decide⟩
noncomputable def f_X8_count_58 (q : Nat) : Nat → Int32 → Int32 → AH → Option (Int32 × AH)
  | 0, _, _, _ => none
  | n + 1, x2, x3, h => if (8 : Int32) ≤ x3 then (some (x2, h)) else (ck x3 8 (if (h (q + 1) (x3 : Int32).toNatClampNeg) < 0 then (lt ((x2 + 0)) (fun v_2 => lt (x3 + 1) (fun v_3 => (f_X8_count_58 q n) v_2 v_3 h))) else (lt ((x2 + 1)) (fun v_4 => lt (x3 + 1) (fun v_5 => (f_X8_count_58 q n) v_4 v_5 h)))))
set_option maxRecDepth 20000 in
set_option maxHeartbeats 4000000 in
theorem t_X8_count_58 {z : MC} {g : GC} {A : Nat → Prop} (F : Fx z cX8_count 4 RX8 (some .int) 2 g A) {q : Nat} (hq : (gL g)[q]? = some (.inl 8)) : ∀ (n : Nat) (x2 : Int32) (x3 : Int32) (h : AH), Snd z 4 g A (QF z g A mkI) 58 [(0, .ref (gad g q)), (2, .int x2), (3, .int x3)] [] h (f_X8_count_58 q n x2 x3 h) := by
  intro n
  induction n with
  | zero => intros; exact s_none
  | succ n ih =>
    intro x2 x3 h
    unfold f_X8_count_58
    refine s_iload_n F dX8_count_58 rfl 2 rfl ?_
    refine s_bipush F (v := 8) dX8_count_59 (by decide) ?_
    refine s_icmp_ge F 87 dX8_count_61 (by decide) (fun _ => ?_) (fun _ => ?_)
    · refine s_iload_n F dX8_count_87 rfl 1 rfl ?_
      exact s_iret F dX8_count_88
    · refine s_iload_n F dX8_count_64 rfl 1 rfl ?_
      refine s_aload_n F dX8_count_65 rfl 0 rfl ?_
      have hw_1 := wf_ref F.2.2.2.2.2.2.1 hq 2 1 (.inr (0, 8)) rfl
      refine s_getr F ciX8 2 1 (.inr (0, 8)) hq (by decide) rfl rfl m895 dX8_count_66 ?_
      refine s_iload_n F dX8_count_69 rfl 2 rfl ?_
      refine s_iald F hw_1 dX8_count_70 ?_
      refine s_if_lt F 78 dX8_count_71 (by decide) (fun _ => ?_) (fun _ => ?_)
      · refine s_iconst F (v := 0) dX8_count_78 (by decide) ?_
        refine s_iadd F dX8_count_79 ?_
        refine s_leti (fun v_2 => ?_)
        refine s_istore_n F (lv' := [(2, .int v_2), (0, .ref (gad g q)), (3, .int x3)]) dX8_count_80 rfl (by decide) rfl ?_
        refine s_iincv F dX8_count_81 2 rfl (by decide) (c := 1) (by decide) (fun v_3 => ?_)
        refine s_lv (lv' := [(3, .int v_3), (2, .int v_2), (0, .ref (gad g q))]) rfl ?_
        refine s_goto F 58 dX8_count_84 (by decide) ?_
        exact s_sub [2, 1, 0] rfl (ih v_2 v_3 h)
      · refine s_iconst F (v := 1) dX8_count_74 (by decide) ?_
        refine s_goto F 79 dX8_count_75 (by decide) ?_
        refine s_iadd F dX8_count_79 ?_
        refine s_leti (fun v_4 => ?_)
        refine s_istore_n F (lv' := [(2, .int v_4), (0, .ref (gad g q)), (3, .int x3)]) dX8_count_80 rfl (by decide) rfl ?_
        refine s_iincv F dX8_count_81 2 rfl (by decide) (c := 1) (by decide) (fun v_5 => ?_)
        refine s_lv (lv' := [(3, .int v_5), (2, .int v_4), (0, .ref (gad g q))]) rfl ?_
        refine s_goto F 58 dX8_count_84 (by decide) ?_
        exact s_sub [2, 1, 0] rfl (ih v_4 v_5 h)
noncomputable def f_X8_count_105 (q : Nat) : Nat → Int32 → Int32 → AH → Option (Int32 × AH)
  | 0, _, _, _ => none
  | n + 1, x2, x3, h => ck 1 100 (if (h (q + 4) (1 : Int32).toNatClampNeg) ≤ x3 then (some (x2, h)) else (bd (f_X8_of q x3 6 h) (fun v_3 h_2 => lt ((x2 + v_3)) (fun v_4 => lt (x3 + 1) (fun v_5 => (f_X8_count_105 q n) v_4 v_5 h_2)))))
set_option maxRecDepth 20000 in
set_option maxHeartbeats 4000000 in
theorem t_X8_count_105 {z : MC} {g : GC} {A : Nat → Prop} (F : Fx z cX8_count 4 RX8 (some .int) 2 g A) {q : Nat} (hq : (gL g)[q]? = some (.inl 8)) : ∀ (n : Nat) (x2 : Int32) (x3 : Int32) (h : AH), Snd z 4 g A (QF z g A mkI) 105 [(0, .ref (gad g q)), (2, .int x2), (3, .int x3)] [] h (f_X8_count_105 q n x2 x3 h) := by
  intro n
  induction n with
  | zero => intros; exact s_none
  | succ n ih =>
    intro x2 x3 h
    unfold f_X8_count_105
    refine s_iload_n F dX8_count_105 rfl 2 rfl ?_
    refine s_aload_n F dX8_count_106 rfl 0 rfl ?_
    have hw_1 := wf_ref F.2.2.2.2.2.2.1 hq 5 4 (.inr (0, 100)) rfl
    refine s_getr F ciX8 5 4 (.inr (0, 100)) hq (by decide) rfl rfl m898 dX8_count_107 ?_
    refine s_iconst F (v := 1) dX8_count_110 (by decide) ?_
    refine s_iald F hw_1 dX8_count_111 ?_
    refine s_icmp_ge F 131 dX8_count_112 (by decide) (fun _ => ?_) (fun _ => ?_)
    · refine s_iload_n F dX8_count_131 rfl 1 rfl ?_
      exact s_iret F dX8_count_132
    · refine s_iload_n F dX8_count_115 rfl 1 rfl ?_
      refine s_aload_n F dX8_count_116 rfl 0 rfl ?_
      refine s_iload_n F dX8_count_117 rfl 2 rfl ?_
      refine s_bipush F (v := 6) dX8_count_118 (by decide) ?_
      refine s_callVi (f := fun hh => f_X8_of q x3 6 hh) (As := [.int x3, .int 6]) F yv_X8_of (ct_X8_of z.2.1 g hq x3 6) (by decide) m1146 hq rfl rfl rfl (Nat.le_of_ble_eq_true rfl) dX8_count_120 (fun v_3 h_2 e_v_3 => ?_)
      refine s_iadd F dX8_count_123 ?_
      refine s_leti (fun v_4 => ?_)
      refine s_istore_n F (lv' := [(2, .int v_4), (0, .ref (gad g q)), (3, .int x3)]) dX8_count_124 rfl (by decide) rfl ?_
      refine s_iincv F dX8_count_125 2 rfl (by decide) (c := 1) (by decide) (fun v_5 => ?_)
      refine s_lv (lv' := [(3, .int v_5), (2, .int v_4), (0, .ref (gad g q))]) rfl ?_
      refine s_goto F 105 dX8_count_128 (by decide) ?_
      exact s_sub [2, 1, 0] rfl (ih v_4 v_5 h_2)
noncomputable def f_X8_count (q : Nat) (x1 : Int32) (h : AH) : Option (Int32 × AH) := lt (hset h q 0 0) (fun h_1 => if x1 = 0 then (f_X8_count_58 q fu 0 0 h_1) else (if x1 = 1 then (lt ((x1 - 1)) (fun v_3 => ck v_3 100 (some (h_1 (q + 4) (v_3 : Int32).toNatClampNeg, h_1)))) else (if x1 = 2 then (lt ((x1 - 1)) (fun v_5 => ck v_5 100 (some (h_1 (q + 4) (v_5 : Int32).toNatClampNeg, h_1)))) else (if x1 = 3 then (lt ((x1 - 1)) (fun v_7 => ck v_7 100 (some (h_1 (q + 4) (v_7 : Int32).toNatClampNeg, h_1)))) else (if x1 = 4 then (some (h_1 q 9, h_1)) else (if x1 = 5 then (f_X8_count_105 q fu 0 0 h_1) else (if x1 = 6 then (ck 3 100 (some (h_1 (q + 4) (3 : Int32).toNatClampNeg, h_1))) else (if x1 = 7 then (some (h_1 q 11, h_1)) else (some ((-1000001), h_1))))))))))
set_option maxRecDepth 20000 in
set_option maxHeartbeats 4000000 in
theorem ct_X8_count (l : Launch) (g : GC) {q : Nat} (hq : (gL g)[q]? = some (.inl 8)) (x1 : Int32) : Ct l yX8_count cX8_count 4 (some .int) 2 [.ref (gad g q), .int x1] g mkI (fun h => f_X8_count q x1 h) := by
  refine Ct.of (by decide +kernel) (Nat.le_of_ble_eq_true rfl) (fun z A h _ F => ?_)
  show Snd z 4 g A (QF z g A mkI) 0 [(0, .ref (gad g q)), (1, .int x1)] [] h (f_X8_count q x1 h)
  unfold f_X8_count
  refine s_aload_n F dX8_count_0 rfl 0 rfl ?_
  refine s_iconst F (v := 0) dX8_count_1 (by decide) ?_
  refine s_put F ciX8 (k := 0) hq (by decide) rfl rfl rfl rfl m893 dX8_count_2 ?_
  refine s_letH (fun h_1 => ?_)
  refine s_iconst F (v := 0) dX8_count_5 (by decide) ?_
  refine s_istore_n F (lv' := [(2, .int 0), (0, .ref (gad g q)), (1, .int x1)]) dX8_count_6 rfl (by decide) rfl ?_
  refine s_iload_n F dX8_count_7 rfl 2 rfl ?_
  refine s_case 0 ?_ (fun n0 => ?_)
  · refine s_tabIn F (off := 48) 56 dX8_count_8 (by decide) (by decide) rfl (by decide) ?_
    refine s_iconst F (v := 0) dX8_count_56 (by decide) ?_
    refine s_istore_n F (lv' := [(3, .int 0), (2, .int 0), (0, .ref (gad g q)), (1, .int x1)]) dX8_count_57 rfl (by decide) rfl ?_
    exact s_sub [2, 1, 0] rfl (t_X8_count_58 F hq fu 0 0 h_1)
  refine s_case 1 ?_ (fun n1 => ?_)
  · refine s_tabIn F (off := 81) 89 dX8_count_8 (by decide) (by decide) rfl (by decide) ?_
    refine s_aload_n F dX8_count_89 rfl 1 rfl ?_
    have hw_2 := wf_ref F.2.2.2.2.2.2.1 hq 5 4 (.inr (0, 100)) rfl
    refine s_getr F ciX8 5 4 (.inr (0, 100)) hq (by decide) rfl rfl m898 dX8_count_90 ?_
    refine s_iload_n F dX8_count_93 rfl 2 rfl ?_
    refine s_iconst F (v := 1) dX8_count_94 (by decide) ?_
    refine s_isub F dX8_count_95 ?_
    refine s_leti (fun v_3 => ?_)
    refine s_iald F hw_2 dX8_count_96 ?_
    exact s_iret F dX8_count_97
  refine s_case 2 ?_ (fun n2 => ?_)
  · refine s_tabIn F (off := 81) 89 dX8_count_8 (by decide) (by decide) rfl (by decide) ?_
    refine s_aload_n F dX8_count_89 rfl 1 rfl ?_
    have hw_4 := wf_ref F.2.2.2.2.2.2.1 hq 5 4 (.inr (0, 100)) rfl
    refine s_getr F ciX8 5 4 (.inr (0, 100)) hq (by decide) rfl rfl m898 dX8_count_90 ?_
    refine s_iload_n F dX8_count_93 rfl 2 rfl ?_
    refine s_iconst F (v := 1) dX8_count_94 (by decide) ?_
    refine s_isub F dX8_count_95 ?_
    refine s_leti (fun v_5 => ?_)
    refine s_iald F hw_4 dX8_count_96 ?_
    exact s_iret F dX8_count_97
  refine s_case 3 ?_ (fun n3 => ?_)
  · refine s_tabIn F (off := 81) 89 dX8_count_8 (by decide) (by decide) rfl (by decide) ?_
    refine s_aload_n F dX8_count_89 rfl 1 rfl ?_
    have hw_6 := wf_ref F.2.2.2.2.2.2.1 hq 5 4 (.inr (0, 100)) rfl
    refine s_getr F ciX8 5 4 (.inr (0, 100)) hq (by decide) rfl rfl m898 dX8_count_90 ?_
    refine s_iload_n F dX8_count_93 rfl 2 rfl ?_
    refine s_iconst F (v := 1) dX8_count_94 (by decide) ?_
    refine s_isub F dX8_count_95 ?_
    refine s_leti (fun v_7 => ?_)
    refine s_iald F hw_6 dX8_count_96 ?_
    exact s_iret F dX8_count_97
  refine s_case 4 ?_ (fun n4 => ?_)
  · refine s_tabIn F (off := 90) 98 dX8_count_8 (by decide) (by decide) rfl (by decide) ?_
    refine s_aload_n F dX8_count_98 rfl 1 rfl ?_
    refine s_geti F ciX8 9 hq (by decide) rfl rfl m902 dX8_count_99 ?_
    exact s_iret F dX8_count_102
  refine s_case 5 ?_ (fun n5 => ?_)
  · refine s_tabIn F (off := 95) 103 dX8_count_8 (by decide) (by decide) rfl (by decide) ?_
    refine s_iconst F (v := 0) dX8_count_103 (by decide) ?_
    refine s_istore_n F (lv' := [(3, .int 0), (2, .int 0), (0, .ref (gad g q)), (1, .int x1)]) dX8_count_104 rfl (by decide) rfl ?_
    exact s_sub [2, 1, 0] rfl (t_X8_count_105 F hq fu 0 0 h_1)
  refine s_case 6 ?_ (fun n6 => ?_)
  · refine s_tabIn F (off := 125) 133 dX8_count_8 (by decide) (by decide) rfl (by decide) ?_
    refine s_aload_n F dX8_count_133 rfl 1 rfl ?_
    have hw_8 := wf_ref F.2.2.2.2.2.2.1 hq 5 4 (.inr (0, 100)) rfl
    refine s_getr F ciX8 5 4 (.inr (0, 100)) hq (by decide) rfl rfl m898 dX8_count_134 ?_
    refine s_iconst F (v := 3) dX8_count_137 (by decide) ?_
    refine s_iald F hw_8 dX8_count_138 ?_
    exact s_iret F dX8_count_139
  refine s_case 7 ?_ (fun n7 => ?_)
  · refine s_tabIn F (off := 132) 140 dX8_count_8 (by decide) (by decide) rfl (by decide) ?_
    refine s_aload_n F dX8_count_140 rfl 1 rfl ?_
    refine s_geti F ciX8 11 hq (by decide) rfl rfl m904 dX8_count_141 ?_
    exact s_iret F dX8_count_144
  refine s_tabOut F 145 dX8_count_8 (by decide) (s_out 0 7 8 (by decide) (by decide) (by decide) (fun j hj => ?_)) ?_
  · rcases (show j = 0 ∨ j = 1 ∨ j = 2 ∨ j = 3 ∨ j = 4 ∨ j = 5 ∨ j = 6 ∨ j = 7 by omega) with rfl | rfl | rfl | rfl | rfl | rfl | rfl | rfl
    · exact n0
    · exact n1
    · exact n2
    · exact n3
    · exact n4
    · exact n5
    · exact n6
    · exact n7
  refine s_ldc F (v := (-1000001)) dX8_count_145 m1009 ?_
  exact s_iret F dX8_count_147
theorem dX8_status_0 : decode cX8_status 0 = .ok (.aload_n 0, 1) := by decide +kernel
theorem dX8_status_1 : decode cX8_status 1 = .ok (.iconst 0, 1) := by decide +kernel
theorem dX8_status_2 : decode cX8_status 2 = .ok (.putfield 65, 3) := by decide +kernel
theorem dX8_status_5 : decode cX8_status 5 = .ok (.aload_n 0, 1) := by decide +kernel
theorem dX8_status_6 : decode cX8_status 6 = .ok (.getfield 69, 3) := by decide +kernel
theorem dX8_status_9 : decode cX8_status 9 = .ok (.ireturn, 1) := by decide +kernel
theorem yv_X8_status : YV yX8_status cX8_status 1 (some .int) 0 := ⟨m1333, m1334, m9, m1335, ⟨by decide +kernel, by decide +kernel, by decide +kernel⟩, by decide⟩
noncomputable def f_X8_status (q : Nat) (h : AH) : Option (Int32 × AH) := lt (hset h q 0 0) (fun h_1 => some (h_1 q 1, h_1))
set_option maxRecDepth 20000 in
set_option maxHeartbeats 4000000 in
theorem ct_X8_status (l : Launch) (g : GC) {q : Nat} (hq : (gL g)[q]? = some (.inl 8)) : Ct l yX8_status cX8_status 1 (some .int) 1 [.ref (gad g q)] g mkI (fun h => f_X8_status q h) := by
  refine Ct.of (by decide +kernel) (Nat.le_of_ble_eq_true rfl) (fun z A h _ F => ?_)
  show Snd z 1 g A (QF z g A mkI) 0 [(0, .ref (gad g q))] [] h (f_X8_status q h)
  unfold f_X8_status
  refine s_aload_n F dX8_status_0 rfl 0 rfl ?_
  refine s_iconst F (v := 0) dX8_status_1 (by decide) ?_
  refine s_put F ciX8 (k := 0) hq (by decide) rfl rfl rfl rfl m893 dX8_status_2 ?_
  refine s_letH (fun h_1 => ?_)
  refine s_aload_n F dX8_status_5 rfl 0 rfl ?_
  refine s_geti F ciX8 1 hq (by decide) rfl rfl m894 dX8_status_6 ?_
  exact s_iret F dX8_status_9
