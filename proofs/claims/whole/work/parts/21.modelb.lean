theorem dX8_keep_0 : decode cX8_keep 0 = .ok (.aload_n 0, 1) := by decide +kernel
theorem dX8_keep_1 : decode cX8_keep 1 = .ok (.getfield 199, 3) := by decide +kernel
theorem dX8_keep_4 : decode cX8_keep 4 = .ok (.bipush 24, 2) := by decide +kernel
theorem dX8_keep_6 : decode cX8_keep 6 = .ok (.if_icmp .ne 43, 3) := by decide +kernel
theorem dX8_keep_9 : decode cX8_keep 9 = .ok (.iconst 0, 1) := by decide +kernel
theorem dX8_keep_10 : decode cX8_keep 10 = .ok (.istore_n 1, 1) := by decide +kernel
theorem dX8_keep_11 : decode cX8_keep 11 = .ok (.iload_n 1, 1) := by decide +kernel
theorem dX8_keep_12 : decode cX8_keep 12 = .ok (.sipush 2300, 3) := by decide +kernel
theorem dX8_keep_15 : decode cX8_keep 15 = .ok (.if_icmp .ge 24, 3) := by decide +kernel
theorem dX8_keep_18 : decode cX8_keep 18 = .ok (.aload_n 0, 1) := by decide +kernel
theorem dX8_keep_19 : decode cX8_keep 19 = .ok (.getfield 25, 3) := by decide +kernel
theorem dX8_keep_22 : decode cX8_keep 22 = .ok (.iload_n 1, 1) := by decide +kernel
theorem dX8_keep_23 : decode cX8_keep 23 = .ok (.aload_n 0, 1) := by decide +kernel
theorem dX8_keep_24 : decode cX8_keep 24 = .ok (.getfield 25, 3) := by decide +kernel
theorem dX8_keep_27 : decode cX8_keep 27 = .ok (.iload_n 1, 1) := by decide +kernel
theorem dX8_keep_28 : decode cX8_keep 28 = .ok (.bipush 100, 2) := by decide +kernel
theorem dX8_keep_30 : decode cX8_keep 30 = .ok (.iadd, 1) := by decide +kernel
theorem dX8_keep_31 : decode cX8_keep 31 = .ok (.iaload, 1) := by decide +kernel
theorem dX8_keep_32 : decode cX8_keep 32 = .ok (.iastore, 1) := by decide +kernel
theorem dX8_keep_33 : decode cX8_keep 33 = .ok (.iinc 1 1, 3) := by decide +kernel
theorem dX8_keep_36 : decode cX8_keep 36 = .ok (.goto (-25), 3) := by decide +kernel
theorem dX8_keep_39 : decode cX8_keep 39 = .ok (.aload_n 0, 1) := by decide +kernel
theorem dX8_keep_40 : decode cX8_keep 40 = .ok (.dup, 1) := by decide +kernel
theorem dX8_keep_41 : decode cX8_keep 41 = .ok (.getfield 199, 3) := by decide +kernel
theorem dX8_keep_44 : decode cX8_keep 44 = .ok (.iconst 1, 1) := by decide +kernel
theorem dX8_keep_45 : decode cX8_keep 45 = .ok (.isub, 1) := by decide +kernel
theorem dX8_keep_46 : decode cX8_keep 46 = .ok (.putfield 199, 3) := by decide +kernel
theorem dX8_keep_49 : decode cX8_keep 49 = .ok (.iconst 0, 1) := by decide +kernel
theorem dX8_keep_50 : decode cX8_keep 50 = .ok (.istore_n 1, 1) := by decide +kernel
theorem dX8_keep_51 : decode cX8_keep 51 = .ok (.iload_n 1, 1) := by decide +kernel
theorem dX8_keep_52 : decode cX8_keep 52 = .ok (.bipush 100, 2) := by decide +kernel
theorem dX8_keep_54 : decode cX8_keep 54 = .ok (.if_icmp .ge 29, 3) := by decide +kernel
theorem dX8_keep_57 : decode cX8_keep 57 = .ok (.aload_n 0, 1) := by decide +kernel
theorem dX8_keep_58 : decode cX8_keep 58 = .ok (.getfield 25, 3) := by decide +kernel
theorem dX8_keep_61 : decode cX8_keep 61 = .ok (.bipush 100, 2) := by decide +kernel
theorem dX8_keep_63 : decode cX8_keep 63 = .ok (.aload_n 0, 1) := by decide +kernel
theorem dX8_keep_64 : decode cX8_keep 64 = .ok (.getfield 199, 3) := by decide +kernel
theorem dX8_keep_67 : decode cX8_keep 67 = .ok (.imul, 1) := by decide +kernel
theorem dX8_keep_68 : decode cX8_keep 68 = .ok (.iload_n 1, 1) := by decide +kernel
theorem dX8_keep_69 : decode cX8_keep 69 = .ok (.iadd, 1) := by decide +kernel
theorem dX8_keep_70 : decode cX8_keep 70 = .ok (.aload_n 0, 1) := by decide +kernel
theorem dX8_keep_71 : decode cX8_keep 71 = .ok (.getfield 19, 3) := by decide +kernel
theorem dX8_keep_74 : decode cX8_keep 74 = .ok (.iload_n 1, 1) := by decide +kernel
theorem dX8_keep_75 : decode cX8_keep 75 = .ok (.iaload, 1) := by decide +kernel
theorem dX8_keep_76 : decode cX8_keep 76 = .ok (.iastore, 1) := by decide +kernel
theorem dX8_keep_77 : decode cX8_keep 77 = .ok (.iinc 1 1, 3) := by decide +kernel
theorem dX8_keep_80 : decode cX8_keep 80 = .ok (.goto (-29), 3) := by decide +kernel
theorem dX8_keep_83 : decode cX8_keep 83 = .ok (.aload_n 0, 1) := by decide +kernel
theorem dX8_keep_84 : decode cX8_keep 84 = .ok (.dup, 1) := by decide +kernel
theorem dX8_keep_85 : decode cX8_keep 85 = .ok (.getfield 199, 3) := by decide +kernel
theorem dX8_keep_88 : decode cX8_keep 88 = .ok (.iconst 1, 1) := by decide +kernel
theorem dX8_keep_89 : decode cX8_keep 89 = .ok (.iadd, 1) := by decide +kernel
theorem dX8_keep_90 : decode cX8_keep 90 = .ok (.putfield 199, 3) := by decide +kernel
theorem dX8_keep_93 : decode cX8_keep 93 = .ok (.return_, 1) := by decide +kernel
theorem yv_X8_keep : YV yX8_keep cX8_keep 2 none 0 := ⟨m1128, ms45, m9, m1129, ⟨by decide +kernel, by decide +kernel, by decide +kernel⟩, by decide⟩
noncomputable def f_X8_keep_51 (q : Nat) : Nat → Int32 → AH → Option (Unit × AH)
  | 0, _, _ => none
  | n + 1, x1, h => if (100 : Int32) ≤ x1 then (lt (hset h q 9 ((h q 9) + 1)) (fun h_1 => some ((), h_1))) else (ck x1 100 (lt (((100 * (h q 9)) + x1)) (fun v_4 => ck v_4 2400 (lt (hset h (q + 6) (v_4 : Int32).toNatClampNeg (h (q + 4) (x1 : Int32).toNatClampNeg)) (fun h_5 => lt (x1 + 1) (fun v_6 => (f_X8_keep_51 q n) v_6 h_5))))))
set_option maxRecDepth 20000 in
set_option maxHeartbeats 4000000 in
theorem t_X8_keep_51 {z : MC} {g : GC} {A : Nat → Prop} (F : Fx z cX8_keep 2 RX8 none 1 g A) {q : Nat} (hq : (gL g)[q]? = some (.inl 8)) : ∀ (n : Nat) (x1 : Int32) (h : AH), Snd z 2 g A (QF z g A mkU) 51 [(0, .ref (gad g q)), (1, .int x1)] [] h (f_X8_keep_51 q n x1 h) := by
  intro n
  induction n with
  | zero => intros; exact s_none
  | succ n ih =>
    intro x1 h
    unfold f_X8_keep_51
    refine s_iload_n F dX8_keep_51 rfl 1 rfl ?_
    refine s_bipush F (v := 100) dX8_keep_52 (by decide) ?_
    refine s_icmp_ge F 83 dX8_keep_54 (by decide) (fun _ => ?_) (fun _ => ?_)
    · refine s_aload_n F dX8_keep_83 rfl 0 rfl ?_
      refine s_dup F dX8_keep_84 rfl ?_
      refine s_geti F ciX8 9 hq (by decide) rfl rfl m902 dX8_keep_85 ?_
      refine s_iconst F (v := 1) dX8_keep_88 (by decide) ?_
      refine s_iadd F dX8_keep_89 ?_
      refine s_put F ciX8 (k := 9) hq (by decide) rfl rfl rfl rfl m902 dX8_keep_90 ?_
      refine s_letH (fun h_1 => ?_)
      exact s_vret F dX8_keep_93
    · refine s_aload_n F dX8_keep_57 rfl 0 rfl ?_
      have hw_2 := wf_ref F.2.2.2.2.2.2.1 hq 8 6 (.inr (0, 2400)) rfl
      refine s_getr F ciX8 8 6 (.inr (0, 2400)) hq (by decide) rfl rfl m901 dX8_keep_58 ?_
      refine s_bipush F (v := 100) dX8_keep_61 (by decide) ?_
      refine s_aload_n F dX8_keep_63 rfl 0 rfl ?_
      refine s_geti F ciX8 9 hq (by decide) rfl rfl m902 dX8_keep_64 ?_
      refine s_imul F dX8_keep_67 ?_
      refine s_iload_n F dX8_keep_68 rfl 1 rfl ?_
      refine s_iadd F dX8_keep_69 ?_
      refine s_aload_n F dX8_keep_70 rfl 0 rfl ?_
      have hw_3 := wf_ref F.2.2.2.2.2.2.1 hq 5 4 (.inr (0, 100)) rfl
      refine s_getr F ciX8 5 4 (.inr (0, 100)) hq (by decide) rfl rfl m898 dX8_keep_71 ?_
      refine s_iload_n F dX8_keep_74 rfl 1 rfl ?_
      refine s_iald F hw_3 dX8_keep_75 ?_
      refine s_leti2 (fun v_4 => ?_)
      refine s_iast F hw_2 dX8_keep_76 ?_
      refine s_letH (fun h_5 => ?_)
      refine s_iincv F dX8_keep_77 1 rfl (by decide) (c := 1) (by decide) (fun v_6 => ?_)
      refine s_lv (lv' := [(1, .int v_6), (0, .ref (gad g q))]) rfl ?_
      refine s_goto F 51 dX8_keep_80 (by decide) ?_
      exact s_sub [1, 0] rfl (ih v_6 h_5)
noncomputable def f_X8_keep_11 (q : Nat) : Nat → Int32 → AH → Option (Unit × AH)
  | 0, _, _ => none
  | n + 1, x1, h => if (2300 : Int32) ≤ x1 then (lt (hset h q 9 ((h q 9) - 1)) (fun h_1 => f_X8_keep_51 q fu 0 h_1)) else (lt ((x1 + 100)) (fun v_4 => ck v_4 2400 (ck x1 2400 (lt (hset h (q + 6) (x1 : Int32).toNatClampNeg (h (q + 6) (v_4 : Int32).toNatClampNeg)) (fun h_5 => lt (x1 + 1) (fun v_6 => (f_X8_keep_11 q n) v_6 h_5))))))
set_option maxRecDepth 20000 in
set_option maxHeartbeats 4000000 in
theorem t_X8_keep_11 {z : MC} {g : GC} {A : Nat → Prop} (F : Fx z cX8_keep 2 RX8 none 1 g A) {q : Nat} (hq : (gL g)[q]? = some (.inl 8)) : ∀ (n : Nat) (x1 : Int32) (h : AH), Snd z 2 g A (QF z g A mkU) 11 [(0, .ref (gad g q)), (1, .int x1)] [] h (f_X8_keep_11 q n x1 h) := by
  intro n
  induction n with
  | zero => intros; exact s_none
  | succ n ih =>
    intro x1 h
    unfold f_X8_keep_11
    refine s_iload_n F dX8_keep_11 rfl 1 rfl ?_
    refine s_sipush F (v := 2300) dX8_keep_12 (by decide) ?_
    refine s_icmp_ge F 39 dX8_keep_15 (by decide) (fun _ => ?_) (fun _ => ?_)
    · refine s_aload_n F dX8_keep_39 rfl 0 rfl ?_
      refine s_dup F dX8_keep_40 rfl ?_
      refine s_geti F ciX8 9 hq (by decide) rfl rfl m902 dX8_keep_41 ?_
      refine s_iconst F (v := 1) dX8_keep_44 (by decide) ?_
      refine s_isub F dX8_keep_45 ?_
      refine s_put F ciX8 (k := 9) hq (by decide) rfl rfl rfl rfl m902 dX8_keep_46 ?_
      refine s_letH (fun h_1 => ?_)
      refine s_iconst F (v := 0) dX8_keep_49 (by decide) ?_
      refine s_istore_n F (lv' := [(1, .int 0), (0, .ref (gad g q))]) dX8_keep_50 rfl (by decide) rfl ?_
      exact s_sub [1, 0] rfl (t_X8_keep_51 F hq fu 0 h_1)
    · refine s_aload_n F dX8_keep_18 rfl 0 rfl ?_
      have hw_2 := wf_ref F.2.2.2.2.2.2.1 hq 8 6 (.inr (0, 2400)) rfl
      refine s_getr F ciX8 8 6 (.inr (0, 2400)) hq (by decide) rfl rfl m901 dX8_keep_19 ?_
      refine s_iload_n F dX8_keep_22 rfl 1 rfl ?_
      refine s_aload_n F dX8_keep_23 rfl 0 rfl ?_
      have hw_3 := wf_ref F.2.2.2.2.2.2.1 hq 8 6 (.inr (0, 2400)) rfl
      refine s_getr F ciX8 8 6 (.inr (0, 2400)) hq (by decide) rfl rfl m901 dX8_keep_24 ?_
      refine s_iload_n F dX8_keep_27 rfl 1 rfl ?_
      refine s_bipush F (v := 100) dX8_keep_28 (by decide) ?_
      refine s_iadd F dX8_keep_30 ?_
      refine s_leti (fun v_4 => ?_)
      refine s_iald F hw_3 dX8_keep_31 ?_
      refine s_iast F hw_2 dX8_keep_32 ?_
      refine s_letH (fun h_5 => ?_)
      refine s_iincv F dX8_keep_33 1 rfl (by decide) (c := 1) (by decide) (fun v_6 => ?_)
      refine s_lv (lv' := [(1, .int v_6), (0, .ref (gad g q))]) rfl ?_
      refine s_goto F 11 dX8_keep_36 (by decide) ?_
      exact s_sub [1, 0] rfl (ih v_6 h_5)
noncomputable def f_X8_keep (q : Nat) (h : AH) : Option (Unit × AH) := if (h q 9) = 24 then (f_X8_keep_11 q fu 0 h) else (f_X8_keep_51 q fu 0 h)
set_option maxRecDepth 20000 in
set_option maxHeartbeats 4000000 in
theorem ct_X8_keep (l : Launch) (g : GC) {q : Nat} (hq : (gL g)[q]? = some (.inl 8)) : Ct l yX8_keep cX8_keep 2 none 1 [.ref (gad g q)] g mkU (fun h => f_X8_keep q h) := by
  refine Ct.of (by decide +kernel) (Nat.le_of_ble_eq_true rfl) (fun z A h _ F => ?_)
  show Snd z 2 g A (QF z g A mkU) 0 [(0, .ref (gad g q))] [] h (f_X8_keep q h)
  unfold f_X8_keep
  refine s_aload_n F dX8_keep_0 rfl 0 rfl ?_
  refine s_geti F ciX8 9 hq (by decide) rfl rfl m902 dX8_keep_1 ?_
  refine s_bipush F (v := 24) dX8_keep_4 (by decide) ?_
  refine s_icmp_ne F 49 dX8_keep_6 (by decide) (fun _ => ?_) (fun _ => ?_)
  · refine s_iconst F (v := 0) dX8_keep_49 (by decide) ?_
    refine s_istore_n F (lv' := [(1, .int 0), (0, .ref (gad g q))]) dX8_keep_50 rfl (by decide) rfl ?_
    exact s_sub [1, 0] rfl (t_X8_keep_51 F hq fu 0 h)
  · refine s_iconst F (v := 0) dX8_keep_9 (by decide) ?_
    refine s_istore_n F (lv' := [(1, .int 0), (0, .ref (gad g q))]) dX8_keep_10 rfl (by decide) rfl ?_
    exact s_sub [1, 0] rfl (t_X8_keep_11 F hq fu 0 h)
theorem dX8_becomes_0 : decode cX8_becomes 0 = .ok (.aload_n 0, 1) := by decide +kernel
theorem dX8_becomes_1 : decode cX8_becomes 1 = .ok (.invokevirtual 226, 3) := by decide +kernel
theorem dX8_becomes_4 : decode cX8_becomes 4 = .ok (.aload_n 0, 1) := by decide +kernel
theorem dX8_becomes_5 : decode cX8_becomes 5 = .ok (.getfield 19, 3) := by decide +kernel
theorem dX8_becomes_8 : decode cX8_becomes 8 = .ok (.iload_n 1, 1) := by decide +kernel
theorem dX8_becomes_9 : decode cX8_becomes 9 = .ok (.iaload, 1) := by decide +kernel
theorem dX8_becomes_10 : decode cX8_becomes 10 = .ok (.istore_n 3, 1) := by decide +kernel
theorem dX8_becomes_11 : decode cX8_becomes 11 = .ok (.aload_n 0, 1) := by decide +kernel
theorem dX8_becomes_12 : decode cX8_becomes 12 = .ok (.getfield 19, 3) := by decide +kernel
theorem dX8_becomes_15 : decode cX8_becomes 15 = .ok (.iload_n 1, 1) := by decide +kernel
theorem dX8_becomes_16 : decode cX8_becomes 16 = .ok (.iload_n 2, 1) := by decide +kernel
theorem dX8_becomes_17 : decode cX8_becomes 17 = .ok (.iastore, 1) := by decide +kernel
theorem dX8_becomes_18 : decode cX8_becomes 18 = .ok (.iload_n 3, 1) := by decide +kernel
theorem dX8_becomes_19 : decode cX8_becomes 19 = .ok (.ireturn, 1) := by decide +kernel
theorem yv_X8_becomes : YV yX8_becomes cX8_becomes 4 (some .int) 2 := ⟨m1124, ms44, m9, m1125, ⟨by decide +kernel, by decide +kernel, by decide +kernel⟩, by decide⟩
noncomputable def f_X8_becomes (q : Nat) (x1 : Int32) (x2 : Int32) (h : AH) : Option (Int32 × AH) := bd (f_X8_keep q h) (fun _ h_1 => ck x1 100 (lt (h_1 (q + 4) (x1 : Int32).toNatClampNeg) (fun v_4 => ck x1 100 (lt (hset h_1 (q + 4) (x1 : Int32).toNatClampNeg x2) (fun h_6 => some (v_4, h_6))))))
set_option maxRecDepth 20000 in
set_option maxHeartbeats 4000000 in
theorem ct_X8_becomes (l : Launch) (g : GC) {q : Nat} (hq : (gL g)[q]? = some (.inl 8)) (x1 : Int32) (x2 : Int32) : Ct l yX8_becomes cX8_becomes 4 (some .int) 2 [.ref (gad g q), .int x1, .int x2] g mkI (fun h => f_X8_becomes q x1 x2 h) := by
  refine Ct.of (by decide +kernel) (Nat.le_of_ble_eq_true rfl) (fun z A h _ F => ?_)
  show Snd z 4 g A (QF z g A mkI) 0 [(0, .ref (gad g q)), (1, .int x1), (2, .int x2)] [] h (f_X8_becomes q x1 x2 h)
  unfold f_X8_becomes
  refine s_aload_n F dX8_becomes_0 rfl 0 rfl ?_
  refine s_callVu (f := fun hh => f_X8_keep q hh) (As := []) F yv_X8_keep (ct_X8_keep z.2.1 g hq) (by decide) m1126 hq rfl rfl rfl (Nat.le_of_ble_eq_true rfl) dX8_becomes_1 (fun _ h_1 e_v_2 => ?_)
  refine s_aload_n F dX8_becomes_4 rfl 0 rfl ?_
  have hw_3 := wf_ref F.2.2.2.2.2.2.1 hq 5 4 (.inr (0, 100)) rfl
  refine s_getr F ciX8 5 4 (.inr (0, 100)) hq (by decide) rfl rfl m898 dX8_becomes_5 ?_
  refine s_iload_n F dX8_becomes_8 rfl 1 rfl ?_
  refine s_iald F hw_3 dX8_becomes_9 ?_
  refine s_leti (fun v_4 => ?_)
  refine s_istore_n F (lv' := [(3, .int v_4), (0, .ref (gad g q)), (1, .int x1), (2, .int x2)]) dX8_becomes_10 rfl (by decide) rfl ?_
  refine s_aload_n F dX8_becomes_11 rfl 1 rfl ?_
  have hw_5 := wf_ref F.2.2.2.2.2.2.1 hq 5 4 (.inr (0, 100)) rfl
  refine s_getr F ciX8 5 4 (.inr (0, 100)) hq (by decide) rfl rfl m898 dX8_becomes_12 ?_
  refine s_iload_n F dX8_becomes_15 rfl 2 rfl ?_
  refine s_iload_n F dX8_becomes_16 rfl 3 rfl ?_
  refine s_iast F hw_5 dX8_becomes_17 ?_
  refine s_letH (fun h_6 => ?_)
  refine s_iload_n F dX8_becomes_18 rfl 0 rfl ?_
  exact s_iret F dX8_becomes_19
theorem dX8_isArch_0 : decode cX8_isArch 0 = .ok (.iload_n 1, 1) := by decide +kernel
theorem dX8_isArch_1 : decode cX8_isArch 1 = .ok (.i2l, 1) := by decide +kernel
theorem dX8_isArch_2 : decode cX8_isArch 2 = .ok (.lconst 0, 1) := by decide +kernel
theorem dX8_isArch_3 : decode cX8_isArch 3 = .ok (.aload_n 0, 1) := by decide +kernel
theorem dX8_isArch_4 : decode cX8_isArch 4 = .ok (.getfield 19, 3) := by decide +kernel
theorem dX8_isArch_7 : decode cX8_isArch 7 = .ok (.iconst 0, 1) := by decide +kernel
theorem dX8_isArch_8 : decode cX8_isArch 8 = .ok (.iaload, 1) := by decide +kernel
theorem dX8_isArch_9 : decode cX8_isArch 9 = .ok (.iconst 1, 1) := by decide +kernel
theorem dX8_isArch_10 : decode cX8_isArch 10 = .ok (.isub, 1) := by decide +kernel
theorem dX8_isArch_11 : decode cX8_isArch 11 = .ok (.i2l, 1) := by decide +kernel
theorem dX8_isArch_12 : decode cX8_isArch 12 = .ok (.invokestatic 75, 3) := by decide +kernel
theorem dX8_isArch_15 : decode cX8_isArch 15 = .ok (.ireturn, 1) := by decide +kernel
theorem yv_X8_isArch : YV yX8_isArch cX8_isArch 2 (some .boolean) 1 := ⟨m1119, ms43, m9, m1120, ⟨by decide +kernel, by decide +kernel, by decide +kernel⟩, by decide⟩
noncomputable def f_X8_isArch (q : Nat) (x1 : Int32) (h : AH) : Option (Int32 × AH) := ck 0 100 (bd (f_X8_in ((x1 : Int32).toInt64) 0 ((((h (q + 4) (0 : Int32).toNatClampNeg) - 1) : Int32).toInt64) h) (fun v_3 h_2 => gz v_3 (some (v_3, h_2))))
set_option maxRecDepth 20000 in
set_option maxHeartbeats 4000000 in
theorem ct_X8_isArch (l : Launch) (g : GC) {q : Nat} (hq : (gL g)[q]? = some (.inl 8)) (x1 : Int32) : Ct l yX8_isArch cX8_isArch 2 (some .boolean) 2 [.ref (gad g q), .int x1] g mkI (fun h => f_X8_isArch q x1 h) := by
  refine Ct.of (by decide +kernel) (Nat.le_of_ble_eq_true rfl) (fun z A h _ F => ?_)
  show Snd z 2 g A (QF z g A mkI) 0 [(0, .ref (gad g q)), (1, .int x1)] [] h (f_X8_isArch q x1 h)
  unfold f_X8_isArch
  refine s_iload_n F dX8_isArch_0 rfl 1 rfl ?_
  refine s_i2l F dX8_isArch_1 ?_
  refine s_lconst F (v := 0) dX8_isArch_2 (by decide) ?_
  refine s_aload_n F dX8_isArch_3 rfl 0 rfl ?_
  have hw_1 := wf_ref F.2.2.2.2.2.2.1 hq 5 4 (.inr (0, 100)) rfl
  refine s_getr F ciX8 5 4 (.inr (0, 100)) hq (by decide) rfl rfl m898 dX8_isArch_4 ?_
  refine s_iconst F (v := 0) dX8_isArch_7 (by decide) ?_
  refine s_iald F hw_1 dX8_isArch_8 ?_
  refine s_iconst F (v := 1) dX8_isArch_9 (by decide) ?_
  refine s_isub F dX8_isArch_10 ?_
  refine s_i2l F dX8_isArch_11 ?_
  refine s_callSi (f := fun hh => f_X8_in ((x1 : Int32).toInt64) 0 ((((h (q + 4) (0 : Int32).toNatClampNeg) - 1) : Int32).toInt64) hh) (As := [.long ((x1 : Int32).toInt64), .long 0, .long ((((h (q + 4) (0 : Int32).toNatClampNeg) - 1) : Int32).toInt64)]) F ys_X8_in (ct_X8_in z.2.1 g ((x1 : Int32).toInt64) 0 ((((h (q + 4) (0 : Int32).toNatClampNeg) - 1) : Int32).toInt64)) (by decide) m1005 rfl rfl (Nat.le_of_ble_eq_true rfl) dX8_isArch_12 (fun v_3 h_2 e_v_3 => ?_)
  exact s_zret F dX8_isArch_15
theorem dX8_lend_0 : decode cX8_lend 0 = .ok (.aload_n 0, 1) := by decide +kernel
theorem dX8_lend_1 : decode cX8_lend 1 = .ok (.iconst 0, 1) := by decide +kernel
theorem dX8_lend_2 : decode cX8_lend 2 = .ok (.putfield 65, 3) := by decide +kernel
theorem dX8_lend_5 : decode cX8_lend 5 = .ok (.aload_n 0, 1) := by decide +kernel
theorem dX8_lend_6 : decode cX8_lend 6 = .ok (.iload_n 1, 1) := by decide +kernel
theorem dX8_lend_7 : decode cX8_lend 7 = .ok (.invokevirtual 229, 3) := by decide +kernel
theorem dX8_lend_10 : decode cX8_lend 10 = .ok (.ifCond .eq 42, 3) := by decide +kernel
theorem dX8_lend_13 : decode cX8_lend 13 = .ok (.iload_n 2, 1) := by decide +kernel
theorem dX8_lend_14 : decode cX8_lend 14 = .ok (.i2l, 1) := by decide +kernel
theorem dX8_lend_15 : decode cX8_lend 15 = .ok (.lconst 0, 1) := by decide +kernel
theorem dX8_lend_16 : decode cX8_lend 16 = .ok (.lconst 1, 1) := by decide +kernel
theorem dX8_lend_17 : decode cX8_lend 17 = .ok (.invokestatic 75, 3) := by decide +kernel
theorem dX8_lend_20 : decode cX8_lend 20 = .ok (.ifCond .eq 32, 3) := by decide +kernel
theorem dX8_lend_23 : decode cX8_lend 23 = .ok (.iload_n 3, 1) := by decide +kernel
theorem dX8_lend_24 : decode cX8_lend 24 = .ok (.i2l, 1) := by decide +kernel
theorem dX8_lend_25 : decode cX8_lend 25 = .ok (.lconst 0, 1) := by decide +kernel
theorem dX8_lend_26 : decode cX8_lend 26 = .ok (.ldc2_w 232, 3) := by decide +kernel
theorem dX8_lend_29 : decode cX8_lend 29 = .ok (.invokestatic 75, 3) := by decide +kernel
theorem dX8_lend_32 : decode cX8_lend 32 = .ok (.ifCond .eq 20, 3) := by decide +kernel
theorem dX8_lend_35 : decode cX8_lend 35 = .ok (.aload_n 0, 1) := by decide +kernel
theorem dX8_lend_36 : decode cX8_lend 36 = .ok (.bipush 16, 2) := by decide +kernel
theorem dX8_lend_38 : decode cX8_lend 38 = .ok (.bipush 7, 2) := by decide +kernel
theorem dX8_lend_40 : decode cX8_lend 40 = .ok (.iload_n 1, 1) := by decide +kernel
theorem dX8_lend_41 : decode cX8_lend 41 = .ok (.imul, 1) := by decide +kernel
theorem dX8_lend_42 : decode cX8_lend 42 = .ok (.iadd, 1) := by decide +kernel
theorem dX8_lend_43 : decode cX8_lend 43 = .ok (.iload_n 2, 1) := by decide +kernel
theorem dX8_lend_44 : decode cX8_lend 44 = .ok (.iadd, 1) := by decide +kernel
theorem dX8_lend_45 : decode cX8_lend 45 = .ok (.iload_n 3, 1) := by decide +kernel
theorem dX8_lend_46 : decode cX8_lend 46 = .ok (.invokevirtual 234, 3) := by decide +kernel
theorem dX8_lend_49 : decode cX8_lend 49 = .ok (.goto 5, 3) := by decide +kernel
theorem dX8_lend_52 : decode cX8_lend 52 = .ok (.ldc 85, 2) := by decide +kernel
theorem dX8_lend_54 : decode cX8_lend 54 = .ok (.ireturn, 1) := by decide +kernel
theorem yv_X8_lend : YV yX8_lend cX8_lend 4 (some .int) 3 := ⟨m1114, m1115, m9, m1116, ⟨by decide +kernel, by decide +kernel, by decide +kernel⟩, by decide⟩
noncomputable def f_X8_lend (q : Nat) (x1 : Int32) (x2 : Int32) (x3 : Int32) (h : AH) : Option (Int32 × AH) := lt (hset h q 0 0) (fun h_1 => bd (f_X8_isArch q x1 h_1) (fun v_3 h_2 => if v_3 = 0 then (some ((-1000001), h_2)) else (bd (f_X8_in ((x2 : Int32).toInt64) 0 1 h_2) (fun v_5 h_4 => if v_5 = 0 then (some ((-1000001), h_4)) else (bd (f_X8_in ((x3 : Int32).toInt64) 0 4 h_4) (fun v_7 h_6 => if v_7 = 0 then (some ((-1000001), h_6)) else (bd (f_X8_becomes q ((16 + (7 * x1)) + x2) x3 h_6) (fun v_9 h_8 => some (v_9, h_8)))))))))
set_option maxRecDepth 20000 in
set_option maxHeartbeats 4000000 in
theorem ct_X8_lend (l : Launch) (g : GC) {q : Nat} (hq : (gL g)[q]? = some (.inl 8)) (x1 : Int32) (x2 : Int32) (x3 : Int32) : Ct l yX8_lend cX8_lend 4 (some .int) 3 [.ref (gad g q), .int x1, .int x2, .int x3] g mkI (fun h => f_X8_lend q x1 x2 x3 h) := by
  refine Ct.of (by decide +kernel) (Nat.le_of_ble_eq_true rfl) (fun z A h _ F => ?_)
  show Snd z 4 g A (QF z g A mkI) 0 [(0, .ref (gad g q)), (1, .int x1), (2, .int x2), (3, .int x3)] [] h (f_X8_lend q x1 x2 x3 h)
  unfold f_X8_lend
  refine s_aload_n F dX8_lend_0 rfl 0 rfl ?_
  refine s_iconst F (v := 0) dX8_lend_1 (by decide) ?_
  refine s_put F ciX8 (k := 0) hq (by decide) rfl rfl rfl rfl m893 dX8_lend_2 ?_
  refine s_letH (fun h_1 => ?_)
  refine s_aload_n F dX8_lend_5 rfl 0 rfl ?_
  refine s_iload_n F dX8_lend_6 rfl 1 rfl ?_
  refine s_callVi (f := fun hh => f_X8_isArch q x1 hh) (As := [.int x1]) F yv_X8_isArch (ct_X8_isArch z.2.1 g hq x1) (by decide) m1117 hq rfl rfl rfl (Nat.le_of_ble_eq_true rfl) dX8_lend_7 (fun v_3 h_2 e_v_3 => ?_)
  refine s_if_eq F 52 dX8_lend_10 (by decide) (fun _ => ?_) (fun _ => ?_)
  · refine s_ldc F (v := (-1000001)) dX8_lend_52 m1009 ?_
    exact s_iret F dX8_lend_54
  · refine s_iload_n F dX8_lend_13 rfl 2 rfl ?_
    refine s_i2l F dX8_lend_14 ?_
    refine s_lconst F (v := 0) dX8_lend_15 (by decide) ?_
    refine s_lconst F (v := 1) dX8_lend_16 (by decide) ?_
    refine s_callSi (f := fun hh => f_X8_in ((x2 : Int32).toInt64) 0 1 hh) (As := [.long ((x2 : Int32).toInt64), .long 0, .long 1]) F ys_X8_in (ct_X8_in z.2.1 g ((x2 : Int32).toInt64) 0 1) (by decide) m1005 rfl rfl (Nat.le_of_ble_eq_true rfl) dX8_lend_17 (fun v_5 h_4 e_v_5 => ?_)
    refine s_if_eq F 52 dX8_lend_20 (by decide) (fun _ => ?_) (fun _ => ?_)
    · refine s_ldc F (v := (-1000001)) dX8_lend_52 m1009 ?_
      exact s_iret F dX8_lend_54
    · refine s_iload_n F dX8_lend_23 rfl 3 rfl ?_
      refine s_i2l F dX8_lend_24 ?_
      refine s_lconst F (v := 0) dX8_lend_25 (by decide) ?_
      refine s_ldc2 F (v := 4) dX8_lend_26 m1121 ?_
      refine s_callSi (f := fun hh => f_X8_in ((x3 : Int32).toInt64) 0 4 hh) (As := [.long ((x3 : Int32).toInt64), .long 0, .long 4]) F ys_X8_in (ct_X8_in z.2.1 g ((x3 : Int32).toInt64) 0 4) (by decide) m1005 rfl rfl (Nat.le_of_ble_eq_true rfl) dX8_lend_29 (fun v_7 h_6 e_v_7 => ?_)
      refine s_if_eq F 52 dX8_lend_32 (by decide) (fun _ => ?_) (fun _ => ?_)
      · refine s_ldc F (v := (-1000001)) dX8_lend_52 m1009 ?_
        exact s_iret F dX8_lend_54
      · refine s_aload_n F dX8_lend_35 rfl 0 rfl ?_
        refine s_bipush F (v := 16) dX8_lend_36 (by decide) ?_
        refine s_bipush F (v := 7) dX8_lend_38 (by decide) ?_
        refine s_iload_n F dX8_lend_40 rfl 1 rfl ?_
        refine s_imul F dX8_lend_41 ?_
        refine s_iadd F dX8_lend_42 ?_
        refine s_iload_n F dX8_lend_43 rfl 2 rfl ?_
        refine s_iadd F dX8_lend_44 ?_
        refine s_iload_n F dX8_lend_45 rfl 3 rfl ?_
        refine s_callVi (f := fun hh => f_X8_becomes q ((16 + (7 * x1)) + x2) x3 hh) (As := [.int ((16 + (7 * x1)) + x2), .int x3]) F yv_X8_becomes (ct_X8_becomes z.2.1 g hq ((16 + (7 * x1)) + x2) x3) (by decide) m1122 hq rfl rfl rfl (Nat.le_of_ble_eq_true rfl) dX8_lend_46 (fun v_9 h_8 e_v_9 => ?_)
        refine s_goto F 54 dX8_lend_49 (by decide) ?_
        exact s_iret F dX8_lend_54
theorem dX8_shut_0 : decode cX8_shut 0 = .ok (.aload_n 0, 1) := by decide +kernel
theorem dX8_shut_1 : decode cX8_shut 1 = .ok (.iconst 0, 1) := by decide +kernel
theorem dX8_shut_2 : decode cX8_shut 2 = .ok (.putfield 65, 3) := by decide +kernel
theorem dX8_shut_5 : decode cX8_shut 5 = .ok (.aload_n 0, 1) := by decide +kernel
theorem dX8_shut_6 : decode cX8_shut 6 = .ok (.iload_n 1, 1) := by decide +kernel
theorem dX8_shut_7 : decode cX8_shut 7 = .ok (.invokevirtual 229, 3) := by decide +kernel
theorem dX8_shut_10 : decode cX8_shut 10 = .ok (.ifCond .eq 30, 3) := by decide +kernel
theorem dX8_shut_13 : decode cX8_shut 13 = .ok (.iload_n 2, 1) := by decide +kernel
theorem dX8_shut_14 : decode cX8_shut 14 = .ok (.i2l, 1) := by decide +kernel
theorem dX8_shut_15 : decode cX8_shut 15 = .ok (.lconst 0, 1) := by decide +kernel
theorem dX8_shut_16 : decode cX8_shut 16 = .ok (.lconst 1, 1) := by decide +kernel
theorem dX8_shut_17 : decode cX8_shut 17 = .ok (.invokestatic 75, 3) := by decide +kernel
theorem dX8_shut_20 : decode cX8_shut 20 = .ok (.ifCond .eq 20, 3) := by decide +kernel
theorem dX8_shut_23 : decode cX8_shut 23 = .ok (.aload_n 0, 1) := by decide +kernel
theorem dX8_shut_24 : decode cX8_shut 24 = .ok (.bipush 16, 2) := by decide +kernel
theorem dX8_shut_26 : decode cX8_shut 26 = .ok (.bipush 7, 2) := by decide +kernel
theorem dX8_shut_28 : decode cX8_shut 28 = .ok (.iload_n 1, 1) := by decide +kernel
theorem dX8_shut_29 : decode cX8_shut 29 = .ok (.imul, 1) := by decide +kernel
theorem dX8_shut_30 : decode cX8_shut 30 = .ok (.iadd, 1) := by decide +kernel
theorem dX8_shut_31 : decode cX8_shut 31 = .ok (.iconst 4, 1) := by decide +kernel
theorem dX8_shut_32 : decode cX8_shut 32 = .ok (.iadd, 1) := by decide +kernel
theorem dX8_shut_33 : decode cX8_shut 33 = .ok (.iload_n 2, 1) := by decide +kernel
theorem dX8_shut_34 : decode cX8_shut 34 = .ok (.invokevirtual 234, 3) := by decide +kernel
theorem dX8_shut_37 : decode cX8_shut 37 = .ok (.goto 5, 3) := by decide +kernel
theorem dX8_shut_40 : decode cX8_shut 40 = .ok (.ldc 85, 2) := by decide +kernel
theorem dX8_shut_42 : decode cX8_shut 42 = .ok (.ireturn, 1) := by decide +kernel
theorem yv_X8_shut : YV yX8_shut cX8_shut 3 (some .int) 2 := ⟨m1131, m1132, m9, m1133, ⟨by decide +kernel, by decide +kernel, by decide +kernel⟩, by decide⟩
noncomputable def f_X8_shut (q : Nat) (x1 : Int32) (x2 : Int32) (h : AH) : Option (Int32 × AH) := lt (hset h q 0 0) (fun h_1 => bd (f_X8_isArch q x1 h_1) (fun v_3 h_2 => if v_3 = 0 then (some ((-1000001), h_2)) else (bd (f_X8_in ((x2 : Int32).toInt64) 0 1 h_2) (fun v_5 h_4 => if v_5 = 0 then (some ((-1000001), h_4)) else (bd (f_X8_becomes q ((16 + (7 * x1)) + 4) x2 h_4) (fun v_7 h_6 => some (v_7, h_6)))))))
set_option maxRecDepth 20000 in
set_option maxHeartbeats 4000000 in
theorem ct_X8_shut (l : Launch) (g : GC) {q : Nat} (hq : (gL g)[q]? = some (.inl 8)) (x1 : Int32) (x2 : Int32) : Ct l yX8_shut cX8_shut 3 (some .int) 3 [.ref (gad g q), .int x1, .int x2] g mkI (fun h => f_X8_shut q x1 x2 h) := by
  refine Ct.of (by decide +kernel) (Nat.le_of_ble_eq_true rfl) (fun z A h _ F => ?_)
  show Snd z 3 g A (QF z g A mkI) 0 [(0, .ref (gad g q)), (1, .int x1), (2, .int x2)] [] h (f_X8_shut q x1 x2 h)
  unfold f_X8_shut
  refine s_aload_n F dX8_shut_0 rfl 0 rfl ?_
  refine s_iconst F (v := 0) dX8_shut_1 (by decide) ?_
  refine s_put F ciX8 (k := 0) hq (by decide) rfl rfl rfl rfl m893 dX8_shut_2 ?_
  refine s_letH (fun h_1 => ?_)
  refine s_aload_n F dX8_shut_5 rfl 0 rfl ?_
  refine s_iload_n F dX8_shut_6 rfl 1 rfl ?_
  refine s_callVi (f := fun hh => f_X8_isArch q x1 hh) (As := [.int x1]) F yv_X8_isArch (ct_X8_isArch z.2.1 g hq x1) (by decide) m1117 hq rfl rfl rfl (Nat.le_of_ble_eq_true rfl) dX8_shut_7 (fun v_3 h_2 e_v_3 => ?_)
  refine s_if_eq F 40 dX8_shut_10 (by decide) (fun _ => ?_) (fun _ => ?_)
  · refine s_ldc F (v := (-1000001)) dX8_shut_40 m1009 ?_
    exact s_iret F dX8_shut_42
  · refine s_iload_n F dX8_shut_13 rfl 2 rfl ?_
    refine s_i2l F dX8_shut_14 ?_
    refine s_lconst F (v := 0) dX8_shut_15 (by decide) ?_
    refine s_lconst F (v := 1) dX8_shut_16 (by decide) ?_
    refine s_callSi (f := fun hh => f_X8_in ((x2 : Int32).toInt64) 0 1 hh) (As := [.long ((x2 : Int32).toInt64), .long 0, .long 1]) F ys_X8_in (ct_X8_in z.2.1 g ((x2 : Int32).toInt64) 0 1) (by decide) m1005 rfl rfl (Nat.le_of_ble_eq_true rfl) dX8_shut_17 (fun v_5 h_4 e_v_5 => ?_)
    refine s_if_eq F 40 dX8_shut_20 (by decide) (fun _ => ?_) (fun _ => ?_)
    · refine s_ldc F (v := (-1000001)) dX8_shut_40 m1009 ?_
      exact s_iret F dX8_shut_42
    · refine s_aload_n F dX8_shut_23 rfl 0 rfl ?_
      refine s_bipush F (v := 16) dX8_shut_24 (by decide) ?_
      refine s_bipush F (v := 7) dX8_shut_26 (by decide) ?_
      refine s_iload_n F dX8_shut_28 rfl 1 rfl ?_
      refine s_imul F dX8_shut_29 ?_
      refine s_iadd F dX8_shut_30 ?_
      refine s_iconst F (v := 4) dX8_shut_31 (by decide) ?_
      refine s_iadd F dX8_shut_32 ?_
      refine s_iload_n F dX8_shut_33 rfl 2 rfl ?_
      refine s_callVi (f := fun hh => f_X8_becomes q ((16 + (7 * x1)) + 4) x2 hh) (As := [.int ((16 + (7 * x1)) + 4), .int x2]) F yv_X8_becomes (ct_X8_becomes z.2.1 g hq ((16 + (7 * x1)) + 4) x2) (by decide) m1122 hq rfl rfl rfl (Nat.le_of_ble_eq_true rfl) dX8_shut_34 (fun v_7 h_6 e_v_7 => ?_)
      refine s_goto F 42 dX8_shut_37 (by decide) ?_
      exact s_iret F dX8_shut_42
theorem dX8_of_0 : decode cX8_of 0 = .ok (.aload_n 0, 1) := by decide +kernel
theorem dX8_of_1 : decode cX8_of 1 = .ok (.getfield 19, 3) := by decide +kernel
theorem dX8_of_4 : decode cX8_of 4 = .ok (.bipush 58, 2) := by decide +kernel
theorem dX8_of_6 : decode cX8_of 6 = .ok (.bipush 7, 2) := by decide +kernel
theorem dX8_of_8 : decode cX8_of 8 = .ok (.iload_n 1, 1) := by decide +kernel
theorem dX8_of_9 : decode cX8_of 9 = .ok (.imul, 1) := by decide +kernel
theorem dX8_of_10 : decode cX8_of 10 = .ok (.iadd, 1) := by decide +kernel
theorem dX8_of_11 : decode cX8_of 11 = .ok (.iload_n 2, 1) := by decide +kernel
theorem dX8_of_12 : decode cX8_of 12 = .ok (.iadd, 1) := by decide +kernel
theorem dX8_of_13 : decode cX8_of 13 = .ok (.iaload, 1) := by decide +kernel
theorem dX8_of_14 : decode cX8_of 14 = .ok (.ireturn, 1) := by decide +kernel
theorem yv_X8_of : YV yX8_of cX8_of 3 (some .int) 2 := ⟨m1148, ms48, m9, m1149, ⟨by decide +kernel, by decide +kernel, by decide +kernel⟩, by decide⟩
noncomputable def f_X8_of (q : Nat) (x1 : Int32) (x2 : Int32) (h : AH) : Option (Int32 × AH) := lt (((58 + (7 * x1)) + x2)) (fun v_2 => ck v_2 100 (some (h (q + 4) (v_2 : Int32).toNatClampNeg, h)))
set_option maxRecDepth 20000 in
set_option maxHeartbeats 4000000 in
theorem ct_X8_of (l : Launch) (g : GC) {q : Nat} (hq : (gL g)[q]? = some (.inl 8)) (x1 : Int32) (x2 : Int32) : Ct l yX8_of cX8_of 3 (some .int) 1 [.ref (gad g q), .int x1, .int x2] g mkI (fun h => f_X8_of q x1 x2 h) := by
  refine Ct.of (by decide +kernel) (Nat.le_of_ble_eq_true rfl) (fun z A h _ F => ?_)
  show Snd z 3 g A (QF z g A mkI) 0 [(0, .ref (gad g q)), (1, .int x1), (2, .int x2)] [] h (f_X8_of q x1 x2 h)
  unfold f_X8_of
  refine s_aload_n F dX8_of_0 rfl 0 rfl ?_
  have hw_1 := wf_ref F.2.2.2.2.2.2.1 hq 5 4 (.inr (0, 100)) rfl
  refine s_getr F ciX8 5 4 (.inr (0, 100)) hq (by decide) rfl rfl m898 dX8_of_1 ?_
  refine s_bipush F (v := 58) dX8_of_4 (by decide) ?_
  refine s_bipush F (v := 7) dX8_of_6 (by decide) ?_
  refine s_iload_n F dX8_of_8 rfl 1 rfl ?_
  refine s_imul F dX8_of_9 ?_
  refine s_iadd F dX8_of_10 ?_
  refine s_iload_n F dX8_of_11 rfl 2 rfl ?_
  refine s_iadd F dX8_of_12 ?_
  refine s_leti (fun v_2 => ?_)
  refine s_iald F hw_1 dX8_of_13 ?_
  exact s_iret F dX8_of_14
theorem dX8_allOf_0 : decode cX8_allOf 0 = .ok (.iconst 0, 1) := by decide +kernel
theorem dX8_allOf_1 : decode cX8_allOf 1 = .ok (.istore_n 2, 1) := by decide +kernel
theorem dX8_allOf_2 : decode cX8_allOf 2 = .ok (.iconst 0, 1) := by decide +kernel
theorem dX8_allOf_3 : decode cX8_allOf 3 = .ok (.istore_n 3, 1) := by decide +kernel
theorem dX8_allOf_4 : decode cX8_allOf 4 = .ok (.iload_n 3, 1) := by decide +kernel
theorem dX8_allOf_5 : decode cX8_allOf 5 = .ok (.iconst 4, 1) := by decide +kernel
theorem dX8_allOf_6 : decode cX8_allOf 6 = .ok (.if_icmp .ge 20, 3) := by decide +kernel
theorem dX8_allOf_9 : decode cX8_allOf 9 = .ok (.iload_n 2, 1) := by decide +kernel
theorem dX8_allOf_10 : decode cX8_allOf 10 = .ok (.aload_n 0, 1) := by decide +kernel
theorem dX8_allOf_11 : decode cX8_allOf 11 = .ok (.iload_n 1, 1) := by decide +kernel
theorem dX8_allOf_12 : decode cX8_allOf 12 = .ok (.iconst 2, 1) := by decide +kernel
theorem dX8_allOf_13 : decode cX8_allOf 13 = .ok (.iload_n 3, 1) := by decide +kernel
theorem dX8_allOf_14 : decode cX8_allOf 14 = .ok (.iadd, 1) := by decide +kernel
theorem dX8_allOf_15 : decode cX8_allOf 15 = .ok (.invokevirtual 206, 3) := by decide +kernel
theorem dX8_allOf_18 : decode cX8_allOf 18 = .ok (.iadd, 1) := by decide +kernel
theorem dX8_allOf_19 : decode cX8_allOf 19 = .ok (.istore_n 2, 1) := by decide +kernel
theorem dX8_allOf_20 : decode cX8_allOf 20 = .ok (.iinc 3 1, 3) := by decide +kernel
theorem dX8_allOf_23 : decode cX8_allOf 23 = .ok (.goto (-19), 3) := by decide +kernel
theorem dX8_allOf_26 : decode cX8_allOf 26 = .ok (.iload_n 2, 1) := by decide +kernel
theorem dX8_allOf_27 : decode cX8_allOf 27 = .ok (.ireturn, 1) := by decide +kernel
theorem yv_X8_allOf : YV yX8_allOf cX8_allOf 4 (some .int) 1 := ⟨m1172, ms53, m9, m1173, ⟨by decide +kernel, by decide +kernel, by decide +kernel⟩, by decide⟩
noncomputable def f_X8_allOf_4 (q : Nat) : Nat → Int32 → Int32 → Int32 → AH → Option (Int32 × AH)
  | 0, _, _, _, _ => none
  | n + 1, x1, x2, x3, h => if (4 : Int32) ≤ x3 then (some (x2, h)) else (bd (f_X8_of q x1 (2 + x3) h) (fun v_2 h_1 => lt ((x2 + v_2)) (fun v_3 => lt (x3 + 1) (fun v_4 => (f_X8_allOf_4 q n) x1 v_3 v_4 h_1))))
set_option maxRecDepth 20000 in
set_option maxHeartbeats 4000000 in
theorem t_X8_allOf_4 {z : MC} {g : GC} {A : Nat → Prop} (F : Fx z cX8_allOf 4 RX8 (some .int) 2 g A) {q : Nat} (hq : (gL g)[q]? = some (.inl 8)) : ∀ (n : Nat) (x1 : Int32) (x2 : Int32) (x3 : Int32) (h : AH), Snd z 4 g A (QF z g A mkI) 4 [(0, .ref (gad g q)), (1, .int x1), (2, .int x2), (3, .int x3)] [] h (f_X8_allOf_4 q n x1 x2 x3 h) := by
  intro n
  induction n with
  | zero => intros; exact s_none
  | succ n ih =>
    intro x1 x2 x3 h
    unfold f_X8_allOf_4
    refine s_iload_n F dX8_allOf_4 rfl 3 rfl ?_
    refine s_iconst F (v := 4) dX8_allOf_5 (by decide) ?_
    refine s_icmp_ge F 26 dX8_allOf_6 (by decide) (fun _ => ?_) (fun _ => ?_)
    · refine s_iload_n F dX8_allOf_26 rfl 2 rfl ?_
      exact s_iret F dX8_allOf_27
    · refine s_iload_n F dX8_allOf_9 rfl 2 rfl ?_
      refine s_aload_n F dX8_allOf_10 rfl 0 rfl ?_
      refine s_iload_n F dX8_allOf_11 rfl 1 rfl ?_
      refine s_iconst F (v := 2) dX8_allOf_12 (by decide) ?_
      refine s_iload_n F dX8_allOf_13 rfl 3 rfl ?_
      refine s_iadd F dX8_allOf_14 ?_
      refine s_callVi (f := fun hh => f_X8_of q x1 (2 + x3) hh) (As := [.int x1, .int (2 + x3)]) F yv_X8_of (ct_X8_of z.2.1 g hq x1 (2 + x3)) (by decide) m1146 hq rfl rfl rfl (Nat.le_of_ble_eq_true rfl) dX8_allOf_15 (fun v_2 h_1 e_v_2 => ?_)
      refine s_iadd F dX8_allOf_18 ?_
      refine s_leti (fun v_3 => ?_)
      refine s_istore_n F (lv' := [(2, .int v_3), (0, .ref (gad g q)), (1, .int x1), (3, .int x3)]) dX8_allOf_19 rfl (by decide) rfl ?_
      refine s_iincv F dX8_allOf_20 3 rfl (by decide) (c := 1) (by decide) (fun v_4 => ?_)
      refine s_lv (lv' := [(3, .int v_4), (2, .int v_3), (0, .ref (gad g q)), (1, .int x1)]) rfl ?_
      refine s_goto F 4 dX8_allOf_23 (by decide) ?_
      exact s_sub [2, 3, 1, 0] rfl (ih x1 v_3 v_4 h_1)
noncomputable def f_X8_allOf (q : Nat) (x1 : Int32) (h : AH) : Option (Int32 × AH) := f_X8_allOf_4 q fu x1 0 0 h
set_option maxRecDepth 20000 in
set_option maxHeartbeats 4000000 in
theorem ct_X8_allOf (l : Launch) (g : GC) {q : Nat} (hq : (gL g)[q]? = some (.inl 8)) (x1 : Int32) : Ct l yX8_allOf cX8_allOf 4 (some .int) 2 [.ref (gad g q), .int x1] g mkI (fun h => f_X8_allOf q x1 h) := by
  refine Ct.of (by decide +kernel) (Nat.le_of_ble_eq_true rfl) (fun z A h _ F => ?_)
  show Snd z 4 g A (QF z g A mkI) 0 [(0, .ref (gad g q)), (1, .int x1)] [] h (f_X8_allOf q x1 h)
  unfold f_X8_allOf
  refine s_iconst F (v := 0) dX8_allOf_0 (by decide) ?_
  refine s_istore_n F (lv' := [(2, .int 0), (0, .ref (gad g q)), (1, .int x1)]) dX8_allOf_1 rfl (by decide) rfl ?_
  refine s_iconst F (v := 0) dX8_allOf_2 (by decide) ?_
  refine s_istore_n F (lv' := [(3, .int 0), (2, .int 0), (0, .ref (gad g q)), (1, .int x1)]) dX8_allOf_3 rfl (by decide) rfl ?_
  exact s_sub [2, 3, 1, 0] rfl (t_X8_allOf_4 F hq fu x1 0 0 h)
theorem dX8_archOf_0 : decode cX8_archOf 0 = .ok (.aload_n 0, 1) := by decide +kernel
theorem dX8_archOf_1 : decode cX8_archOf 1 = .ok (.getfield 19, 3) := by decide +kernel
theorem dX8_archOf_4 : decode cX8_archOf 4 = .ok (.bipush 16, 2) := by decide +kernel
theorem dX8_archOf_6 : decode cX8_archOf 6 = .ok (.bipush 7, 2) := by decide +kernel
theorem dX8_archOf_8 : decode cX8_archOf 8 = .ok (.iload_n 1, 1) := by decide +kernel
theorem dX8_archOf_9 : decode cX8_archOf 9 = .ok (.imul, 1) := by decide +kernel
theorem dX8_archOf_10 : decode cX8_archOf 10 = .ok (.iadd, 1) := by decide +kernel
theorem dX8_archOf_11 : decode cX8_archOf 11 = .ok (.iload_n 2, 1) := by decide +kernel
theorem dX8_archOf_12 : decode cX8_archOf 12 = .ok (.iadd, 1) := by decide +kernel
theorem dX8_archOf_13 : decode cX8_archOf 13 = .ok (.iaload, 1) := by decide +kernel
theorem dX8_archOf_14 : decode cX8_archOf 14 = .ok (.ireturn, 1) := by decide +kernel
theorem yv_X8_archOf : YV yX8_archOf cX8_archOf 3 (some .int) 2 := ⟨m1156, ms50, m9, m1157, ⟨by decide +kernel, by decide +kernel, by decide +kernel⟩, by decide⟩
noncomputable def f_X8_archOf (q : Nat) (x1 : Int32) (x2 : Int32) (h : AH) : Option (Int32 × AH) := lt (((16 + (7 * x1)) + x2)) (fun v_2 => ck v_2 100 (some (h (q + 4) (v_2 : Int32).toNatClampNeg, h)))
set_option maxRecDepth 20000 in
set_option maxHeartbeats 4000000 in
theorem ct_X8_archOf (l : Launch) (g : GC) {q : Nat} (hq : (gL g)[q]? = some (.inl 8)) (x1 : Int32) (x2 : Int32) : Ct l yX8_archOf cX8_archOf 3 (some .int) 1 [.ref (gad g q), .int x1, .int x2] g mkI (fun h => f_X8_archOf q x1 x2 h) := by
  refine Ct.of (by decide +kernel) (Nat.le_of_ble_eq_true rfl) (fun z A h _ F => ?_)
  show Snd z 3 g A (QF z g A mkI) 0 [(0, .ref (gad g q)), (1, .int x1), (2, .int x2)] [] h (f_X8_archOf q x1 x2 h)
  unfold f_X8_archOf
  refine s_aload_n F dX8_archOf_0 rfl 0 rfl ?_
  have hw_1 := wf_ref F.2.2.2.2.2.2.1 hq 5 4 (.inr (0, 100)) rfl
  refine s_getr F ciX8 5 4 (.inr (0, 100)) hq (by decide) rfl rfl m898 dX8_archOf_1 ?_
  refine s_bipush F (v := 16) dX8_archOf_4 (by decide) ?_
  refine s_bipush F (v := 7) dX8_archOf_6 (by decide) ?_
  refine s_iload_n F dX8_archOf_8 rfl 1 rfl ?_
  refine s_imul F dX8_archOf_9 ?_
  refine s_iadd F dX8_archOf_10 ?_
  refine s_iload_n F dX8_archOf_11 rfl 2 rfl ?_
  refine s_iadd F dX8_archOf_12 ?_
  refine s_leti (fun v_2 => ?_)
  refine s_iald F hw_1 dX8_archOf_13 ?_
  exact s_iret F dX8_archOf_14
theorem dX8_isBoat_0 : decode cX8_isBoat 0 = .ok (.iload_n 1, 1) := by decide +kernel
theorem dX8_isBoat_1 : decode cX8_isBoat 1 = .ok (.i2l, 1) := by decide +kernel
theorem dX8_isBoat_2 : decode cX8_isBoat 2 = .ok (.lconst 0, 1) := by decide +kernel
theorem dX8_isBoat_3 : decode cX8_isBoat 3 = .ok (.aload_n 0, 1) := by decide +kernel
theorem dX8_isBoat_4 : decode cX8_isBoat 4 = .ok (.getfield 19, 3) := by decide +kernel
theorem dX8_isBoat_7 : decode cX8_isBoat 7 = .ok (.iconst 1, 1) := by decide +kernel
theorem dX8_isBoat_8 : decode cX8_isBoat 8 = .ok (.iaload, 1) := by decide +kernel
theorem dX8_isBoat_9 : decode cX8_isBoat 9 = .ok (.iconst 1, 1) := by decide +kernel
theorem dX8_isBoat_10 : decode cX8_isBoat 10 = .ok (.isub, 1) := by decide +kernel
theorem dX8_isBoat_11 : decode cX8_isBoat 11 = .ok (.i2l, 1) := by decide +kernel
theorem dX8_isBoat_12 : decode cX8_isBoat 12 = .ok (.invokestatic 75, 3) := by decide +kernel
theorem dX8_isBoat_15 : decode cX8_isBoat 15 = .ok (.ireturn, 1) := by decide +kernel
theorem yv_X8_isBoat : YV yX8_isBoat cX8_isBoat 2 (some .boolean) 1 := ⟨m1140, ms46, m9, m1141, ⟨by decide +kernel, by decide +kernel, by decide +kernel⟩, by decide⟩
noncomputable def f_X8_isBoat (q : Nat) (x1 : Int32) (h : AH) : Option (Int32 × AH) := ck 1 100 (bd (f_X8_in ((x1 : Int32).toInt64) 0 ((((h (q + 4) (1 : Int32).toNatClampNeg) - 1) : Int32).toInt64) h) (fun v_3 h_2 => gz v_3 (some (v_3, h_2))))
set_option maxRecDepth 20000 in
set_option maxHeartbeats 4000000 in
theorem ct_X8_isBoat (l : Launch) (g : GC) {q : Nat} (hq : (gL g)[q]? = some (.inl 8)) (x1 : Int32) : Ct l yX8_isBoat cX8_isBoat 2 (some .boolean) 2 [.ref (gad g q), .int x1] g mkI (fun h => f_X8_isBoat q x1 h) := by
  refine Ct.of (by decide +kernel) (Nat.le_of_ble_eq_true rfl) (fun z A h _ F => ?_)
  show Snd z 2 g A (QF z g A mkI) 0 [(0, .ref (gad g q)), (1, .int x1)] [] h (f_X8_isBoat q x1 h)
  unfold f_X8_isBoat
  refine s_iload_n F dX8_isBoat_0 rfl 1 rfl ?_
  refine s_i2l F dX8_isBoat_1 ?_
  refine s_lconst F (v := 0) dX8_isBoat_2 (by decide) ?_
  refine s_aload_n F dX8_isBoat_3 rfl 0 rfl ?_
  have hw_1 := wf_ref F.2.2.2.2.2.2.1 hq 5 4 (.inr (0, 100)) rfl
  refine s_getr F ciX8 5 4 (.inr (0, 100)) hq (by decide) rfl rfl m898 dX8_isBoat_4 ?_
  refine s_iconst F (v := 1) dX8_isBoat_7 (by decide) ?_
  refine s_iald F hw_1 dX8_isBoat_8 ?_
  refine s_iconst F (v := 1) dX8_isBoat_9 (by decide) ?_
  refine s_isub F dX8_isBoat_10 ?_
  refine s_i2l F dX8_isBoat_11 ?_
  refine s_callSi (f := fun hh => f_X8_in ((x1 : Int32).toInt64) 0 ((((h (q + 4) (1 : Int32).toNatClampNeg) - 1) : Int32).toInt64) hh) (As := [.long ((x1 : Int32).toInt64), .long 0, .long ((((h (q + 4) (1 : Int32).toNatClampNeg) - 1) : Int32).toInt64)]) F ys_X8_in (ct_X8_in z.2.1 g ((x1 : Int32).toInt64) 0 ((((h (q + 4) (1 : Int32).toNatClampNeg) - 1) : Int32).toInt64)) (by decide) m1005 rfl rfl (Nat.le_of_ble_eq_true rfl) dX8_isBoat_12 (fun v_3 h_2 e_v_3 => ?_)
  exact s_zret F dX8_isBoat_15
theorem dX8_tradesOf_0 : decode cX8_tradesOf 0 = .ok (.iconst 0, 1) := by decide +kernel
theorem dX8_tradesOf_1 : decode cX8_tradesOf 1 = .ok (.istore_n 2, 1) := by decide +kernel
theorem dX8_tradesOf_2 : decode cX8_tradesOf 2 = .ok (.iconst 0, 1) := by decide +kernel
theorem dX8_tradesOf_3 : decode cX8_tradesOf 3 = .ok (.istore_n 3, 1) := by decide +kernel
theorem dX8_tradesOf_4 : decode cX8_tradesOf 4 = .ok (.iload_n 3, 1) := by decide +kernel
theorem dX8_tradesOf_5 : decode cX8_tradesOf 5 = .ok (.iconst 4, 1) := by decide +kernel
theorem dX8_tradesOf_6 : decode cX8_tradesOf 6 = .ok (.if_icmp .ge 30, 3) := by decide +kernel
theorem dX8_tradesOf_9 : decode cX8_tradesOf 9 = .ok (.iload_n 2, 1) := by decide +kernel
theorem dX8_tradesOf_10 : decode cX8_tradesOf 10 = .ok (.aload_n 0, 1) := by decide +kernel
theorem dX8_tradesOf_11 : decode cX8_tradesOf 11 = .ok (.iload_n 1, 1) := by decide +kernel
theorem dX8_tradesOf_12 : decode cX8_tradesOf 12 = .ok (.iconst 2, 1) := by decide +kernel
theorem dX8_tradesOf_13 : decode cX8_tradesOf 13 = .ok (.iload_n 3, 1) := by decide +kernel
theorem dX8_tradesOf_14 : decode cX8_tradesOf 14 = .ok (.iadd, 1) := by decide +kernel
theorem dX8_tradesOf_15 : decode cX8_tradesOf 15 = .ok (.invokevirtual 206, 3) := by decide +kernel
theorem dX8_tradesOf_18 : decode cX8_tradesOf 18 = .ok (.ifCond .le 9, 3) := by decide +kernel
theorem dX8_tradesOf_21 : decode cX8_tradesOf 21 = .ok (.iconst 1, 1) := by decide +kernel
theorem dX8_tradesOf_22 : decode cX8_tradesOf 22 = .ok (.iload_n 3, 1) := by decide +kernel
theorem dX8_tradesOf_23 : decode cX8_tradesOf 23 = .ok (.ishl, 1) := by decide +kernel
theorem dX8_tradesOf_24 : decode cX8_tradesOf 24 = .ok (.goto 4, 3) := by decide +kernel
theorem dX8_tradesOf_27 : decode cX8_tradesOf 27 = .ok (.iconst 0, 1) := by decide +kernel
theorem dX8_tradesOf_28 : decode cX8_tradesOf 28 = .ok (.ior, 1) := by decide +kernel
theorem dX8_tradesOf_29 : decode cX8_tradesOf 29 = .ok (.istore_n 2, 1) := by decide +kernel
theorem dX8_tradesOf_30 : decode cX8_tradesOf 30 = .ok (.iinc 3 1, 3) := by decide +kernel
theorem dX8_tradesOf_33 : decode cX8_tradesOf 33 = .ok (.goto (-29), 3) := by decide +kernel
theorem dX8_tradesOf_36 : decode cX8_tradesOf 36 = .ok (.iload_n 2, 1) := by decide +kernel
theorem dX8_tradesOf_37 : decode cX8_tradesOf 37 = .ok (.ireturn, 1) := by decide +kernel
theorem yv_X8_tradesOf : YV yX8_tradesOf cX8_tradesOf 4 (some .int) 1 := ⟨m1164, ms52, m9, m1165, ⟨by decide +kernel, by decide +kernel, by decide +kernel⟩, by decide⟩
noncomputable def f_X8_tradesOf_4 (q : Nat) : Nat → Int32 → Int32 → Int32 → AH → Option (Int32 × AH)
  | 0, _, _, _, _ => none
  | n + 1, x1, x2, x3, h => if (4 : Int32) ≤ x3 then (some (x2, h)) else (bd (f_X8_of q x1 (2 + x3) h) (fun v_2 h_1 => if v_2 ≤ 0 then (lt ((x2 ||| 0)) (fun v_3 => lt (x3 + 1) (fun v_4 => (f_X8_tradesOf_4 q n) x1 v_3 v_4 h_1))) else (lt ((x2 ||| (1 <<< (x3 &&& 31)))) (fun v_5 => lt (x3 + 1) (fun v_6 => (f_X8_tradesOf_4 q n) x1 v_5 v_6 h_1)))))
set_option maxRecDepth 20000 in
set_option maxHeartbeats 4000000 in
theorem t_X8_tradesOf_4 {z : MC} {g : GC} {A : Nat → Prop} (F : Fx z cX8_tradesOf 4 RX8 (some .int) 2 g A) {q : Nat} (hq : (gL g)[q]? = some (.inl 8)) : ∀ (n : Nat) (x1 : Int32) (x2 : Int32) (x3 : Int32) (h : AH), Snd z 4 g A (QF z g A mkI) 4 [(0, .ref (gad g q)), (1, .int x1), (2, .int x2), (3, .int x3)] [] h (f_X8_tradesOf_4 q n x1 x2 x3 h) := by
  intro n
  induction n with
  | zero => intros; exact s_none
  | succ n ih =>
    intro x1 x2 x3 h
    unfold f_X8_tradesOf_4
    refine s_iload_n F dX8_tradesOf_4 rfl 3 rfl ?_
    refine s_iconst F (v := 4) dX8_tradesOf_5 (by decide) ?_
    refine s_icmp_ge F 36 dX8_tradesOf_6 (by decide) (fun _ => ?_) (fun _ => ?_)
    · refine s_iload_n F dX8_tradesOf_36 rfl 2 rfl ?_
      exact s_iret F dX8_tradesOf_37
    · refine s_iload_n F dX8_tradesOf_9 rfl 2 rfl ?_
      refine s_aload_n F dX8_tradesOf_10 rfl 0 rfl ?_
      refine s_iload_n F dX8_tradesOf_11 rfl 1 rfl ?_
      refine s_iconst F (v := 2) dX8_tradesOf_12 (by decide) ?_
      refine s_iload_n F dX8_tradesOf_13 rfl 3 rfl ?_
      refine s_iadd F dX8_tradesOf_14 ?_
      refine s_callVi (f := fun hh => f_X8_of q x1 (2 + x3) hh) (As := [.int x1, .int (2 + x3)]) F yv_X8_of (ct_X8_of z.2.1 g hq x1 (2 + x3)) (by decide) m1146 hq rfl rfl rfl (Nat.le_of_ble_eq_true rfl) dX8_tradesOf_15 (fun v_2 h_1 e_v_2 => ?_)
      refine s_if_le F 27 dX8_tradesOf_18 (by decide) (fun _ => ?_) (fun _ => ?_)
      · refine s_iconst F (v := 0) dX8_tradesOf_27 (by decide) ?_
        refine s_ior F dX8_tradesOf_28 ?_
        refine s_leti (fun v_3 => ?_)
        refine s_istore_n F (lv' := [(2, .int v_3), (0, .ref (gad g q)), (1, .int x1), (3, .int x3)]) dX8_tradesOf_29 rfl (by decide) rfl ?_
        refine s_iincv F dX8_tradesOf_30 3 rfl (by decide) (c := 1) (by decide) (fun v_4 => ?_)
        refine s_lv (lv' := [(3, .int v_4), (2, .int v_3), (0, .ref (gad g q)), (1, .int x1)]) rfl ?_
        refine s_goto F 4 dX8_tradesOf_33 (by decide) ?_
        exact s_sub [2, 3, 1, 0] rfl (ih x1 v_3 v_4 h_1)
      · refine s_iconst F (v := 1) dX8_tradesOf_21 (by decide) ?_
        refine s_iload_n F dX8_tradesOf_22 rfl 3 rfl ?_
        refine s_ishl F dX8_tradesOf_23 ?_
        refine s_goto F 28 dX8_tradesOf_24 (by decide) ?_
        refine s_ior F dX8_tradesOf_28 ?_
        refine s_leti (fun v_5 => ?_)
        refine s_istore_n F (lv' := [(2, .int v_5), (0, .ref (gad g q)), (1, .int x1), (3, .int x3)]) dX8_tradesOf_29 rfl (by decide) rfl ?_
        refine s_iincv F dX8_tradesOf_30 3 rfl (by decide) (c := 1) (by decide) (fun v_6 => ?_)
        refine s_lv (lv' := [(3, .int v_6), (2, .int v_5), (0, .ref (gad g q)), (1, .int x1)]) rfl ?_
        refine s_goto F 4 dX8_tradesOf_33 (by decide) ?_
        exact s_sub [2, 3, 1, 0] rfl (ih x1 v_5 v_6 h_1)
noncomputable def f_X8_tradesOf (q : Nat) (x1 : Int32) (h : AH) : Option (Int32 × AH) := f_X8_tradesOf_4 q fu x1 0 0 h
set_option maxRecDepth 20000 in
set_option maxHeartbeats 4000000 in
theorem ct_X8_tradesOf (l : Launch) (g : GC) {q : Nat} (hq : (gL g)[q]? = some (.inl 8)) (x1 : Int32) : Ct l yX8_tradesOf cX8_tradesOf 4 (some .int) 2 [.ref (gad g q), .int x1] g mkI (fun h => f_X8_tradesOf q x1 h) := by
  refine Ct.of (by decide +kernel) (Nat.le_of_ble_eq_true rfl) (fun z A h _ F => ?_)
  show Snd z 4 g A (QF z g A mkI) 0 [(0, .ref (gad g q)), (1, .int x1)] [] h (f_X8_tradesOf q x1 h)
  unfold f_X8_tradesOf
  refine s_iconst F (v := 0) dX8_tradesOf_0 (by decide) ?_
  refine s_istore_n F (lv' := [(2, .int 0), (0, .ref (gad g q)), (1, .int x1)]) dX8_tradesOf_1 rfl (by decide) rfl ?_
  refine s_iconst F (v := 0) dX8_tradesOf_2 (by decide) ?_
  refine s_istore_n F (lv' := [(3, .int 0), (2, .int 0), (0, .ref (gad g q)), (1, .int x1)]) dX8_tradesOf_3 rfl (by decide) rfl ?_
  exact s_sub [2, 3, 1, 0] rfl (t_X8_tradesOf_4 F hq fu x1 0 0 h)
theorem dX8_isMixed_0 : decode cX8_isMixed 0 = .ok (.aload_n 0, 1) := by decide +kernel
theorem dX8_isMixed_1 : decode cX8_isMixed 1 = .ok (.iload_n 1, 1) := by decide +kernel
theorem dX8_isMixed_2 : decode cX8_isMixed 2 = .ok (.invokevirtual 209, 3) := by decide +kernel
theorem dX8_isMixed_5 : decode cX8_isMixed 5 = .ok (.istore_n 2, 1) := by decide +kernel
theorem dX8_isMixed_6 : decode cX8_isMixed 6 = .ok (.iload_n 2, 1) := by decide +kernel
theorem dX8_isMixed_7 : decode cX8_isMixed 7 = .ok (.iload_n 2, 1) := by decide +kernel
theorem dX8_isMixed_8 : decode cX8_isMixed 8 = .ok (.iconst 1, 1) := by decide +kernel
theorem dX8_isMixed_9 : decode cX8_isMixed 9 = .ok (.isub, 1) := by decide +kernel
theorem dX8_isMixed_10 : decode cX8_isMixed 10 = .ok (.iand, 1) := by decide +kernel
theorem dX8_isMixed_11 : decode cX8_isMixed 11 = .ok (.ifCond .eq 7, 3) := by decide +kernel
theorem dX8_isMixed_14 : decode cX8_isMixed 14 = .ok (.iconst 1, 1) := by decide +kernel
theorem dX8_isMixed_15 : decode cX8_isMixed 15 = .ok (.goto 4, 3) := by decide +kernel
theorem dX8_isMixed_18 : decode cX8_isMixed 18 = .ok (.iconst 0, 1) := by decide +kernel
theorem dX8_isMixed_19 : decode cX8_isMixed 19 = .ok (.ireturn, 1) := by decide +kernel
theorem yv_X8_isMixed : YV yX8_isMixed cX8_isMixed 3 (some .boolean) 1 := ⟨m1176, ms54, m9, m1177, ⟨by decide +kernel, by decide +kernel, by decide +kernel⟩, by decide⟩
noncomputable def f_X8_isMixed (q : Nat) (x1 : Int32) (h : AH) : Option (Int32 × AH) := bd (f_X8_tradesOf q x1 h) (fun v_2 h_1 => if (v_2 &&& (v_2 - 1)) = 0 then (some (0, h_1)) else (some (1, h_1)))
set_option maxRecDepth 20000 in
set_option maxHeartbeats 4000000 in
theorem ct_X8_isMixed (l : Launch) (g : GC) {q : Nat} (hq : (gL g)[q]? = some (.inl 8)) (x1 : Int32) : Ct l yX8_isMixed cX8_isMixed 3 (some .boolean) 3 [.ref (gad g q), .int x1] g mkI (fun h => f_X8_isMixed q x1 h) := by
  refine Ct.of (by decide +kernel) (Nat.le_of_ble_eq_true rfl) (fun z A h _ F => ?_)
  show Snd z 3 g A (QF z g A mkI) 0 [(0, .ref (gad g q)), (1, .int x1)] [] h (f_X8_isMixed q x1 h)
  unfold f_X8_isMixed
  refine s_aload_n F dX8_isMixed_0 rfl 0 rfl ?_
  refine s_iload_n F dX8_isMixed_1 rfl 1 rfl ?_
  refine s_callVi (f := fun hh => f_X8_tradesOf q x1 hh) (As := [.int x1]) F yv_X8_tradesOf (ct_X8_tradesOf z.2.1 g hq x1) (by decide) m1162 hq rfl rfl rfl (Nat.le_of_ble_eq_true rfl) dX8_isMixed_2 (fun v_2 h_1 e_v_2 => ?_)
  refine s_istore_n F (lv' := [(2, .int v_2), (0, .ref (gad g q)), (1, .int x1)]) dX8_isMixed_5 rfl (by decide) rfl ?_
  refine s_iload_n F dX8_isMixed_6 rfl 0 rfl ?_
  refine s_iload_n F dX8_isMixed_7 rfl 0 rfl ?_
  refine s_iconst F (v := 1) dX8_isMixed_8 (by decide) ?_
  refine s_isub F dX8_isMixed_9 ?_
  refine s_iand F dX8_isMixed_10 ?_
  refine s_if_eq F 18 dX8_isMixed_11 (by decide) (fun _ => ?_) (fun _ => ?_)
  · refine s_iconst F (v := 0) dX8_isMixed_18 (by decide) ?_
    exact s_zret1 F (by decide) dX8_isMixed_19
  · refine s_iconst F (v := 1) dX8_isMixed_14 (by decide) ?_
    refine s_goto F 19 dX8_isMixed_15 (by decide) ?_
    exact s_zret1 F (by decide) dX8_isMixed_19
theorem dX8_letsBy_0 : decode cX8_letsBy 0 = .ok (.iload_n 0, 1) := by decide +kernel
theorem dX8_letsBy_1 : decode cX8_letsBy 1 = .ok (.iconst 4, 1) := by decide +kernel
theorem dX8_letsBy_2 : decode cX8_letsBy 2 = .ok (.if_icmp .eq 13, 3) := by decide +kernel
theorem dX8_letsBy_5 : decode cX8_letsBy 5 = .ok (.iload_n 1, 1) := by decide +kernel
theorem dX8_letsBy_6 : decode cX8_letsBy 6 = .ok (.iconst 1, 1) := by decide +kernel
theorem dX8_letsBy_7 : decode cX8_letsBy 7 = .ok (.iload_n 0, 1) := by decide +kernel
theorem dX8_letsBy_8 : decode cX8_letsBy 8 = .ok (.ishl, 1) := by decide +kernel
theorem dX8_letsBy_9 : decode cX8_letsBy 9 = .ok (.iconst (-1), 1) := by decide +kernel
theorem dX8_letsBy_10 : decode cX8_letsBy 10 = .ok (.ixor, 1) := by decide +kernel
theorem dX8_letsBy_11 : decode cX8_letsBy 11 = .ok (.iand, 1) := by decide +kernel
theorem dX8_letsBy_12 : decode cX8_letsBy 12 = .ok (.ifCond .ne 7, 3) := by decide +kernel
theorem dX8_letsBy_15 : decode cX8_letsBy 15 = .ok (.iconst 1, 1) := by decide +kernel
theorem dX8_letsBy_16 : decode cX8_letsBy 16 = .ok (.goto 4, 3) := by decide +kernel
theorem dX8_letsBy_19 : decode cX8_letsBy 19 = .ok (.iconst 0, 1) := by decide +kernel
theorem dX8_letsBy_20 : decode cX8_letsBy 20 = .ok (.ireturn, 1) := by decide +kernel
theorem ys_X8_letsBy : YS yX8_letsBy cX8_letsBy 2 (some .boolean) 2 := ⟨m1167, m9, m1168, ⟨by decide +kernel, by decide +kernel, by decide +kernel⟩, by decide⟩
noncomputable def f_X8_letsBy (x0 : Int32) (x1 : Int32) (h : AH) : Option (Int32 × AH) := if x0 = 4 then (some (1, h)) else (if (x1 &&& ((1 <<< (x0 &&& 31)) ^^^ (-1))) = 0 then (some (1, h)) else (some (0, h)))
set_option maxRecDepth 20000 in
set_option maxHeartbeats 4000000 in
theorem ct_X8_letsBy (l : Launch) (g : GC) (x0 : Int32) (x1 : Int32) : Ct l yX8_letsBy cX8_letsBy 2 (some .boolean) 1 [.int x0, .int x1] g mkI (fun h => f_X8_letsBy x0 x1 h) := by
  refine Ct.of (by decide +kernel) (Nat.le_of_ble_eq_true rfl) (fun z A h _ F => ?_)
  show Snd z 2 g A (QF z g A mkI) 0 [(0, .int x0), (1, .int x1)] [] h (f_X8_letsBy x0 x1 h)
  unfold f_X8_letsBy
  refine s_iload_n F dX8_letsBy_0 rfl 0 rfl ?_
  refine s_iconst F (v := 4) dX8_letsBy_1 (by decide) ?_
  refine s_icmp_eq F 15 dX8_letsBy_2 (by decide) (fun _ => ?_) (fun _ => ?_)
  · refine s_iconst F (v := 1) dX8_letsBy_15 (by decide) ?_
    refine s_goto F 20 dX8_letsBy_16 (by decide) ?_
    exact s_zret1 F (by decide) dX8_letsBy_20
  · refine s_iload_n F dX8_letsBy_5 rfl 1 rfl ?_
    refine s_iconst F (v := 1) dX8_letsBy_6 (by decide) ?_
    refine s_iload_n F dX8_letsBy_7 rfl 0 rfl ?_
    refine s_ishl F dX8_letsBy_8 ?_
    refine s_iconst F (v := (-1)) dX8_letsBy_9 (by decide) ?_
    refine s_ixor F dX8_letsBy_10 ?_
    refine s_iand F dX8_letsBy_11 ?_
    refine s_if_ne F 19 dX8_letsBy_12 (by decide) (fun _ => ?_) (fun _ => ?_)
    · refine s_iconst F (v := 0) dX8_letsBy_19 (by decide) ?_
      exact s_zret1 F (by decide) dX8_letsBy_20
    · refine s_iconst F (v := 1) dX8_letsBy_15 (by decide) ?_
      refine s_goto F 20 dX8_letsBy_16 (by decide) ?_
      exact s_zret1 F (by decide) dX8_letsBy_20
theorem dX8_mayBy_0 : decode cX8_mayBy 0 = .ok (.aload_n 0, 1) := by decide +kernel
theorem dX8_mayBy_1 : decode cX8_mayBy 1 = .ok (.iload_n 2, 1) := by decide +kernel
theorem dX8_mayBy_2 : decode cX8_mayBy 2 = .ok (.iconst 2, 1) := by decide +kernel
theorem dX8_mayBy_3 : decode cX8_mayBy 3 = .ok (.invokevirtual 212, 3) := by decide +kernel
theorem dX8_mayBy_6 : decode cX8_mayBy 6 = .ok (.aload_n 0, 1) := by decide +kernel
theorem dX8_mayBy_7 : decode cX8_mayBy 7 = .ok (.getfield 19, 3) := by decide +kernel
theorem dX8_mayBy_10 : decode cX8_mayBy 10 = .ok (.iconst 4, 1) := by decide +kernel
theorem dX8_mayBy_11 : decode cX8_mayBy 11 = .ok (.iload_n 3, 1) := by decide +kernel
theorem dX8_mayBy_12 : decode cX8_mayBy 12 = .ok (.iadd, 1) := by decide +kernel
theorem dX8_mayBy_13 : decode cX8_mayBy 13 = .ok (.iaload, 1) := by decide +kernel
theorem dX8_mayBy_14 : decode cX8_mayBy 14 = .ok (.isub, 1) := by decide +kernel
theorem dX8_mayBy_15 : decode cX8_mayBy 15 = .ok (.istore 5, 2) := by decide +kernel
theorem dX8_mayBy_17 : decode cX8_mayBy 17 = .ok (.aload_n 0, 1) := by decide +kernel
theorem dX8_mayBy_18 : decode cX8_mayBy 18 = .ok (.iload_n 2, 1) := by decide +kernel
theorem dX8_mayBy_19 : decode cX8_mayBy 19 = .ok (.iconst 4, 1) := by decide +kernel
theorem dX8_mayBy_20 : decode cX8_mayBy 20 = .ok (.invokevirtual 212, 3) := by decide +kernel
theorem dX8_mayBy_23 : decode cX8_mayBy 23 = .ok (.iconst 1, 1) := by decide +kernel
theorem dX8_mayBy_24 : decode cX8_mayBy 24 = .ok (.if_icmp .eq 16, 3) := by decide +kernel
theorem dX8_mayBy_27 : decode cX8_mayBy 27 = .ok (.iload 4, 2) := by decide +kernel
theorem dX8_mayBy_29 : decode cX8_mayBy 29 = .ok (.aload_n 0, 1) := by decide +kernel
theorem dX8_mayBy_30 : decode cX8_mayBy 30 = .ok (.iload_n 1, 1) := by decide +kernel
theorem dX8_mayBy_31 : decode cX8_mayBy 31 = .ok (.invokevirtual 209, 3) := by decide +kernel
theorem dX8_mayBy_34 : decode cX8_mayBy 34 = .ok (.invokestatic 215, 3) := by decide +kernel
theorem dX8_mayBy_37 : decode cX8_mayBy 37 = .ok (.ifCond .ne 5, 3) := by decide +kernel
theorem dX8_mayBy_40 : decode cX8_mayBy 40 = .ok (.iconst 0, 1) := by decide +kernel
theorem dX8_mayBy_41 : decode cX8_mayBy 41 = .ok (.ireturn, 1) := by decide +kernel
theorem dX8_mayBy_42 : decode cX8_mayBy 42 = .ok (.aload_n 0, 1) := by decide +kernel
theorem dX8_mayBy_43 : decode cX8_mayBy 43 = .ok (.iload_n 1, 1) := by decide +kernel
theorem dX8_mayBy_44 : decode cX8_mayBy 44 = .ok (.iconst 0, 1) := by decide +kernel
theorem dX8_mayBy_45 : decode cX8_mayBy 45 = .ok (.invokevirtual 206, 3) := by decide +kernel
theorem dX8_mayBy_48 : decode cX8_mayBy 48 = .ok (.tableswitch 80 3 5 #[61, 28, 39], 28) := by decide +kernel
theorem dX8_mayBy_76 : decode cX8_mayBy 76 = .ok (.iload 5, 2) := by decide +kernel
theorem dX8_mayBy_78 : decode cX8_mayBy 78 = .ok (.ifCond .lt 7, 3) := by decide +kernel
theorem dX8_mayBy_81 : decode cX8_mayBy 81 = .ok (.iconst 1, 1) := by decide +kernel
theorem dX8_mayBy_82 : decode cX8_mayBy 82 = .ok (.goto 4, 3) := by decide +kernel
theorem dX8_mayBy_85 : decode cX8_mayBy 85 = .ok (.iconst 0, 1) := by decide +kernel
theorem dX8_mayBy_86 : decode cX8_mayBy 86 = .ok (.ireturn, 1) := by decide +kernel
theorem dX8_mayBy_87 : decode cX8_mayBy 87 = .ok (.iload 5, 2) := by decide +kernel
theorem dX8_mayBy_89 : decode cX8_mayBy 89 = .ok (.ifCond .lt 18, 3) := by decide +kernel
theorem dX8_mayBy_92 : decode cX8_mayBy 92 = .ok (.aload_n 0, 1) := by decide +kernel
theorem dX8_mayBy_93 : decode cX8_mayBy 93 = .ok (.iload_n 2, 1) := by decide +kernel
theorem dX8_mayBy_94 : decode cX8_mayBy 94 = .ok (.iconst 2, 1) := by decide +kernel
theorem dX8_mayBy_95 : decode cX8_mayBy 95 = .ok (.invokevirtual 212, 3) := by decide +kernel
theorem dX8_mayBy_98 : decode cX8_mayBy 98 = .ok (.bipush 10, 2) := by decide +kernel
theorem dX8_mayBy_100 : decode cX8_mayBy 100 = .ok (.if_icmp .lt 7, 3) := by decide +kernel
theorem dX8_mayBy_103 : decode cX8_mayBy 103 = .ok (.iconst 1, 1) := by decide +kernel
theorem dX8_mayBy_104 : decode cX8_mayBy 104 = .ok (.goto 4, 3) := by decide +kernel
theorem dX8_mayBy_107 : decode cX8_mayBy 107 = .ok (.iconst 0, 1) := by decide +kernel
theorem dX8_mayBy_108 : decode cX8_mayBy 108 = .ok (.ireturn, 1) := by decide +kernel
theorem dX8_mayBy_109 : decode cX8_mayBy 109 = .ok (.iload 5, 2) := by decide +kernel
theorem dX8_mayBy_111 : decode cX8_mayBy 111 = .ok (.aload_n 0, 1) := by decide +kernel
theorem dX8_mayBy_112 : decode cX8_mayBy 112 = .ok (.iload_n 1, 1) := by decide +kernel
theorem dX8_mayBy_113 : decode cX8_mayBy 113 = .ok (.iconst 1, 1) := by decide +kernel
theorem dX8_mayBy_114 : decode cX8_mayBy 114 = .ok (.invokevirtual 206, 3) := by decide +kernel
theorem dX8_mayBy_117 : decode cX8_mayBy 117 = .ok (.iconst 2, 1) := by decide +kernel
theorem dX8_mayBy_118 : decode cX8_mayBy 118 = .ok (.idiv, 1) := by decide +kernel
theorem dX8_mayBy_119 : decode cX8_mayBy 119 = .ok (.if_icmp .lt 7, 3) := by decide +kernel
theorem dX8_mayBy_122 : decode cX8_mayBy 122 = .ok (.iconst 1, 1) := by decide +kernel
theorem dX8_mayBy_123 : decode cX8_mayBy 123 = .ok (.goto 4, 3) := by decide +kernel
theorem dX8_mayBy_126 : decode cX8_mayBy 126 = .ok (.iconst 0, 1) := by decide +kernel
theorem dX8_mayBy_127 : decode cX8_mayBy 127 = .ok (.ireturn, 1) := by decide +kernel
theorem dX8_mayBy_128 : decode cX8_mayBy 128 = .ok (.iload 5, 2) := by decide +kernel
theorem dX8_mayBy_130 : decode cX8_mayBy 130 = .ok (.aload_n 0, 1) := by decide +kernel
theorem dX8_mayBy_131 : decode cX8_mayBy 131 = .ok (.iload_n 1, 1) := by decide +kernel
theorem dX8_mayBy_132 : decode cX8_mayBy 132 = .ok (.iconst 1, 1) := by decide +kernel
theorem dX8_mayBy_133 : decode cX8_mayBy 133 = .ok (.invokevirtual 206, 3) := by decide +kernel
theorem dX8_mayBy_136 : decode cX8_mayBy 136 = .ok (.if_icmp .lt 7, 3) := by decide +kernel
theorem dX8_mayBy_139 : decode cX8_mayBy 139 = .ok (.iconst 1, 1) := by decide +kernel
theorem dX8_mayBy_140 : decode cX8_mayBy 140 = .ok (.goto 4, 3) := by decide +kernel
theorem dX8_mayBy_143 : decode cX8_mayBy 143 = .ok (.iconst 0, 1) := by decide +kernel
theorem dX8_mayBy_144 : decode cX8_mayBy 144 = .ok (.ireturn, 1) := by decide +kernel
theorem yv_X8_mayBy : YV yX8_mayBy cX8_mayBy 6 (some .boolean) 4 := ⟨m1160, ms51, m9, m1161, ⟨by decide +kernel, by decide +kernel, by decide +kernel⟩, by decide⟩
noncomputable def f_X8_mayBy (q : Nat) (x1 : Int32) (x2 : Int32) (x3 : Int32) (x4 : Int32) (h : AH) : Option (Int32 × AH) := bd (f_X8_archOf q x2 2 h) (fun v_2 h_1 => lt ((4 + x3)) (fun v_4 => ck v_4 100 (lt ((v_2 - (h_1 (q + 4) (v_4 : Int32).toNatClampNeg))) (fun v_5 => bd (f_X8_archOf q x2 4 h_1) (fun v_7 h_6 => if v_7 = 1 then (some (0, h_6)) else (bd (f_X8_tradesOf q x1 h_6) (fun v_9 h_8 => bd (f_X8_letsBy x4 v_9 h_8) (fun v_11 h_10 => if v_11 = 0 then (some (0, h_10)) else (bd (f_X8_of q x1 0 h_10) (fun v_13 h_12 => if v_13 = 3 then (bd (f_X8_of q x1 1 h_12) (fun v_15 h_14 => if v_5 < (v_15 / 2) then (some (0, h_14)) else (some (1, h_14)))) else (if v_13 = 4 then (if v_5 < 0 then (some (0, h_12)) else (some (1, h_12))) else (if v_13 = 5 then (if v_5 < 0 then (some (0, h_12)) else (bd (f_X8_archOf q x2 2 h_12) (fun v_17 h_16 => if v_17 < 10 then (some (0, h_16)) else (some (1, h_16))))) else (bd (f_X8_of q x1 1 h_12) (fun v_19 h_18 => if v_5 < v_19 then (some (0, h_18)) else (some (1, h_18))))))))))))))))
set_option maxRecDepth 20000 in
set_option maxHeartbeats 4000000 in
theorem ct_X8_mayBy (l : Launch) (g : GC) {q : Nat} (hq : (gL g)[q]? = some (.inl 8)) (x1 : Int32) (x2 : Int32) (x3 : Int32) (x4 : Int32) : Ct l yX8_mayBy cX8_mayBy 6 (some .boolean) 3 [.ref (gad g q), .int x1, .int x2, .int x3, .int x4] g mkI (fun h => f_X8_mayBy q x1 x2 x3 x4 h) := by
  refine Ct.of (by decide +kernel) (Nat.le_of_ble_eq_true rfl) (fun z A h _ F => ?_)
  show Snd z 6 g A (QF z g A mkI) 0 [(0, .ref (gad g q)), (1, .int x1), (2, .int x2), (3, .int x3), (4, .int x4)] [] h (f_X8_mayBy q x1 x2 x3 x4 h)
  unfold f_X8_mayBy
  refine s_aload_n F dX8_mayBy_0 rfl 0 rfl ?_
  refine s_iload_n F dX8_mayBy_1 rfl 2 rfl ?_
  refine s_iconst F (v := 2) dX8_mayBy_2 (by decide) ?_
  refine s_callVi (f := fun hh => f_X8_archOf q x2 2 hh) (As := [.int x2, .int 2]) F yv_X8_archOf (ct_X8_archOf z.2.1 g hq x2 2) (by decide) m1154 hq rfl rfl rfl (Nat.le_of_ble_eq_true rfl) dX8_mayBy_3 (fun v_2 h_1 e_v_2 => ?_)
  refine s_aload_n F dX8_mayBy_6 rfl 0 rfl ?_
  have hw_3 := wf_ref F.2.2.2.2.2.2.1 hq 5 4 (.inr (0, 100)) rfl
  refine s_getr F ciX8 5 4 (.inr (0, 100)) hq (by decide) rfl rfl m898 dX8_mayBy_7 ?_
  refine s_iconst F (v := 4) dX8_mayBy_10 (by decide) ?_
  refine s_iload_n F dX8_mayBy_11 rfl 3 rfl ?_
  refine s_iadd F dX8_mayBy_12 ?_
  refine s_leti (fun v_4 => ?_)
  refine s_iald F hw_3 dX8_mayBy_13 ?_
  refine s_isub F dX8_mayBy_14 ?_
  refine s_leti (fun v_5 => ?_)
  refine s_istore F (lv' := [(5, .int v_5), (0, .ref (gad g q)), (1, .int x1), (2, .int x2), (3, .int x3), (4, .int x4)]) dX8_mayBy_15 (by decide) rfl ?_
  refine s_aload_n F dX8_mayBy_17 rfl 1 rfl ?_
  refine s_iload_n F dX8_mayBy_18 rfl 3 rfl ?_
  refine s_iconst F (v := 4) dX8_mayBy_19 (by decide) ?_
  refine s_callVi (f := fun hh => f_X8_archOf q x2 4 hh) (As := [.int x2, .int 4]) F yv_X8_archOf (ct_X8_archOf z.2.1 g hq x2 4) (by decide) m1154 hq rfl rfl rfl (Nat.le_of_ble_eq_true rfl) dX8_mayBy_20 (fun v_7 h_6 e_v_7 => ?_)
  refine s_iconst F (v := 1) dX8_mayBy_23 (by decide) ?_
  refine s_icmp_eq F 40 dX8_mayBy_24 (by decide) (fun _ => ?_) (fun _ => ?_)
  · refine s_iconst F (v := 0) dX8_mayBy_40 (by decide) ?_
    exact s_zret1 F (by decide) dX8_mayBy_41
  · refine s_iload F dX8_mayBy_27 5 rfl ?_
    refine s_aload_n F dX8_mayBy_29 rfl 1 rfl ?_
    refine s_iload_n F dX8_mayBy_30 rfl 2 rfl ?_
    refine s_callVi (f := fun hh => f_X8_tradesOf q x1 hh) (As := [.int x1]) F yv_X8_tradesOf (ct_X8_tradesOf z.2.1 g hq x1) (by decide) m1162 hq rfl rfl rfl (Nat.le_of_ble_eq_true rfl) dX8_mayBy_31 (fun v_9 h_8 e_v_9 => ?_)
    refine s_callSi (f := fun hh => f_X8_letsBy x4 v_9 hh) (As := [.int x4, .int v_9]) F ys_X8_letsBy (ct_X8_letsBy z.2.1 g x4 v_9) (by decide) m1166 rfl rfl (Nat.le_of_ble_eq_true rfl) dX8_mayBy_34 (fun v_11 h_10 e_v_11 => ?_)
    refine s_if_ne F 42 dX8_mayBy_37 (by decide) (fun _ => ?_) (fun _ => ?_)
    · refine s_aload_n F dX8_mayBy_42 rfl 1 rfl ?_
      refine s_iload_n F dX8_mayBy_43 rfl 2 rfl ?_
      refine s_iconst F (v := 0) dX8_mayBy_44 (by decide) ?_
      refine s_callVi (f := fun hh => f_X8_of q x1 0 hh) (As := [.int x1, .int 0]) F yv_X8_of (ct_X8_of z.2.1 g hq x1 0) (by decide) m1146 hq rfl rfl rfl (Nat.le_of_ble_eq_true rfl) dX8_mayBy_45 (fun v_13 h_12 e_v_13 => ?_)
      refine s_case 3 ?_ (fun n3 => ?_)
      · refine s_tabIn F (off := 61) 109 dX8_mayBy_48 (by decide) (by decide) rfl (by decide) ?_
        refine s_iload F dX8_mayBy_109 0 rfl ?_
        refine s_aload_n F dX8_mayBy_111 rfl 1 rfl ?_
        refine s_iload_n F dX8_mayBy_112 rfl 2 rfl ?_
        refine s_iconst F (v := 1) dX8_mayBy_113 (by decide) ?_
        refine s_callVi (f := fun hh => f_X8_of q x1 1 hh) (As := [.int x1, .int 1]) F yv_X8_of (ct_X8_of z.2.1 g hq x1 1) (by decide) m1146 hq rfl rfl rfl (Nat.le_of_ble_eq_true rfl) dX8_mayBy_114 (fun v_15 h_14 e_v_15 => ?_)
        refine s_iconst F (v := 2) dX8_mayBy_117 (by decide) ?_
        refine s_idivN F dX8_mayBy_118 (by decide) ?_
        refine s_icmp_lt F 126 dX8_mayBy_119 (by decide) (fun _ => ?_) (fun _ => ?_)
        · refine s_iconst F (v := 0) dX8_mayBy_126 (by decide) ?_
          exact s_zret1 F (by decide) dX8_mayBy_127
        · refine s_iconst F (v := 1) dX8_mayBy_122 (by decide) ?_
          refine s_goto F 127 dX8_mayBy_123 (by decide) ?_
          exact s_zret1 F (by decide) dX8_mayBy_127
      refine s_case 4 ?_ (fun n4 => ?_)
      · refine s_tabIn F (off := 28) 76 dX8_mayBy_48 (by decide) (by decide) rfl (by decide) ?_
        refine s_iload F dX8_mayBy_76 0 rfl ?_
        refine s_if_lt F 85 dX8_mayBy_78 (by decide) (fun _ => ?_) (fun _ => ?_)
        · refine s_iconst F (v := 0) dX8_mayBy_85 (by decide) ?_
          exact s_zret1 F (by decide) dX8_mayBy_86
        · refine s_iconst F (v := 1) dX8_mayBy_81 (by decide) ?_
          refine s_goto F 86 dX8_mayBy_82 (by decide) ?_
          exact s_zret1 F (by decide) dX8_mayBy_86
      refine s_case 5 ?_ (fun n5 => ?_)
      · refine s_tabIn F (off := 39) 87 dX8_mayBy_48 (by decide) (by decide) rfl (by decide) ?_
        refine s_iload F dX8_mayBy_87 0 rfl ?_
        refine s_if_lt F 107 dX8_mayBy_89 (by decide) (fun _ => ?_) (fun _ => ?_)
        · refine s_iconst F (v := 0) dX8_mayBy_107 (by decide) ?_
          exact s_zret1 F (by decide) dX8_mayBy_108
        · refine s_aload_n F dX8_mayBy_92 rfl 1 rfl ?_
          refine s_iload_n F dX8_mayBy_93 rfl 3 rfl ?_
          refine s_iconst F (v := 2) dX8_mayBy_94 (by decide) ?_
          refine s_callVi (f := fun hh => f_X8_archOf q x2 2 hh) (As := [.int x2, .int 2]) F yv_X8_archOf (ct_X8_archOf z.2.1 g hq x2 2) (by decide) m1154 hq rfl rfl rfl (Nat.le_of_ble_eq_true rfl) dX8_mayBy_95 (fun v_17 h_16 e_v_17 => ?_)
          refine s_bipush F (v := 10) dX8_mayBy_98 (by decide) ?_
          refine s_icmp_lt F 107 dX8_mayBy_100 (by decide) (fun _ => ?_) (fun _ => ?_)
          · refine s_iconst F (v := 0) dX8_mayBy_107 (by decide) ?_
            exact s_zret1 F (by decide) dX8_mayBy_108
          · refine s_iconst F (v := 1) dX8_mayBy_103 (by decide) ?_
            refine s_goto F 108 dX8_mayBy_104 (by decide) ?_
            exact s_zret1 F (by decide) dX8_mayBy_108
      refine s_tabOut F 128 dX8_mayBy_48 (by decide) (s_out 3 5 3 (by decide) (by decide) (by decide) (fun j hj => ?_)) ?_
      · rcases (show j = 0 ∨ j = 1 ∨ j = 2 by omega) with rfl | rfl | rfl
        · exact n3
        · exact n4
        · exact n5
      refine s_iload F dX8_mayBy_128 0 rfl ?_
      refine s_aload_n F dX8_mayBy_130 rfl 1 rfl ?_
      refine s_iload_n F dX8_mayBy_131 rfl 2 rfl ?_
      refine s_iconst F (v := 1) dX8_mayBy_132 (by decide) ?_
      refine s_callVi (f := fun hh => f_X8_of q x1 1 hh) (As := [.int x1, .int 1]) F yv_X8_of (ct_X8_of z.2.1 g hq x1 1) (by decide) m1146 hq rfl rfl rfl (Nat.le_of_ble_eq_true rfl) dX8_mayBy_133 (fun v_19 h_18 e_v_19 => ?_)
      refine s_icmp_lt F 143 dX8_mayBy_136 (by decide) (fun _ => ?_) (fun _ => ?_)
      · refine s_iconst F (v := 0) dX8_mayBy_143 (by decide) ?_
        exact s_zret1 F (by decide) dX8_mayBy_144
      · refine s_iconst F (v := 1) dX8_mayBy_139 (by decide) ?_
        refine s_goto F 144 dX8_mayBy_140 (by decide) ?_
        exact s_zret1 F (by decide) dX8_mayBy_144
    · refine s_iconst F (v := 0) dX8_mayBy_40 (by decide) ?_
      exact s_zret1 F (by decide) dX8_mayBy_41
theorem dX8_sideOf_0 : decode cX8_sideOf 0 = .ok (.aload_n 0, 1) := by decide +kernel
theorem dX8_sideOf_1 : decode cX8_sideOf 1 = .ok (.iload_n 1, 1) := by decide +kernel
theorem dX8_sideOf_2 : decode cX8_sideOf 2 = .ok (.iconst 0, 1) := by decide +kernel
theorem dX8_sideOf_3 : decode cX8_sideOf 3 = .ok (.invokevirtual 206, 3) := by decide +kernel
theorem dX8_sideOf_6 : decode cX8_sideOf 6 = .ok (.iconst 4, 1) := by decide +kernel
theorem dX8_sideOf_7 : decode cX8_sideOf 7 = .ok (.if_icmp .lt 7, 3) := by decide +kernel
theorem dX8_sideOf_10 : decode cX8_sideOf 10 = .ok (.iconst 1, 1) := by decide +kernel
theorem dX8_sideOf_11 : decode cX8_sideOf 11 = .ok (.goto 4, 3) := by decide +kernel
theorem dX8_sideOf_14 : decode cX8_sideOf 14 = .ok (.iconst 0, 1) := by decide +kernel
theorem dX8_sideOf_15 : decode cX8_sideOf 15 = .ok (.ireturn, 1) := by decide +kernel
theorem yv_X8_sideOf : YV yX8_sideOf cX8_sideOf 2 (some .int) 1 := ⟨m1144, ms47, m9, m1145, ⟨by decide +kernel, by decide +kernel, by decide +kernel⟩, by decide⟩
noncomputable def f_X8_sideOf (q : Nat) (x1 : Int32) (h : AH) : Option (Int32 × AH) := bd (f_X8_of q x1 0 h) (fun v_2 h_1 => if v_2 < 4 then (some (0, h_1)) else (some (1, h_1)))
set_option maxRecDepth 20000 in
set_option maxHeartbeats 4000000 in
theorem ct_X8_sideOf (l : Launch) (g : GC) {q : Nat} (hq : (gL g)[q]? = some (.inl 8)) (x1 : Int32) : Ct l yX8_sideOf cX8_sideOf 2 (some .int) 2 [.ref (gad g q), .int x1] g mkI (fun h => f_X8_sideOf q x1 h) := by
  refine Ct.of (by decide +kernel) (Nat.le_of_ble_eq_true rfl) (fun z A h _ F => ?_)
  show Snd z 2 g A (QF z g A mkI) 0 [(0, .ref (gad g q)), (1, .int x1)] [] h (f_X8_sideOf q x1 h)
  unfold f_X8_sideOf
  refine s_aload_n F dX8_sideOf_0 rfl 0 rfl ?_
  refine s_iload_n F dX8_sideOf_1 rfl 1 rfl ?_
  refine s_iconst F (v := 0) dX8_sideOf_2 (by decide) ?_
  refine s_callVi (f := fun hh => f_X8_of q x1 0 hh) (As := [.int x1, .int 0]) F yv_X8_of (ct_X8_of z.2.1 g hq x1 0) (by decide) m1146 hq rfl rfl rfl (Nat.le_of_ble_eq_true rfl) dX8_sideOf_3 (fun v_2 h_1 e_v_2 => ?_)
  refine s_iconst F (v := 4) dX8_sideOf_6 (by decide) ?_
  refine s_icmp_lt F 14 dX8_sideOf_7 (by decide) (fun _ => ?_) (fun _ => ?_)
  · refine s_iconst F (v := 0) dX8_sideOf_14 (by decide) ?_
    exact s_iret F dX8_sideOf_15
  · refine s_iconst F (v := 1) dX8_sideOf_10 (by decide) ?_
    refine s_goto F 15 dX8_sideOf_11 (by decide) ?_
    exact s_iret F dX8_sideOf_15
theorem dX8_mayGo_0 : decode cX8_mayGo 0 = .ok (.aload_n 0, 1) := by decide +kernel
theorem dX8_mayGo_1 : decode cX8_mayGo 1 = .ok (.iload_n 1, 1) := by decide +kernel
theorem dX8_mayGo_2 : decode cX8_mayGo 2 = .ok (.iload_n 2, 1) := by decide +kernel
theorem dX8_mayGo_3 : decode cX8_mayGo 3 = .ok (.iload_n 3, 1) := by decide +kernel
theorem dX8_mayGo_4 : decode cX8_mayGo 4 = .ok (.aload_n 0, 1) := by decide +kernel
theorem dX8_mayGo_5 : decode cX8_mayGo 5 = .ok (.iload_n 2, 1) := by decide +kernel
theorem dX8_mayGo_6 : decode cX8_mayGo 6 = .ok (.aload_n 0, 1) := by decide +kernel
theorem dX8_mayGo_7 : decode cX8_mayGo 7 = .ok (.iload_n 1, 1) := by decide +kernel
theorem dX8_mayGo_8 : decode cX8_mayGo 8 = .ok (.invokevirtual 219, 3) := by decide +kernel
theorem dX8_mayGo_11 : decode cX8_mayGo 11 = .ok (.invokevirtual 212, 3) := by decide +kernel
theorem dX8_mayGo_14 : decode cX8_mayGo 14 = .ok (.invokevirtual 222, 3) := by decide +kernel
theorem dX8_mayGo_17 : decode cX8_mayGo 17 = .ok (.ireturn, 1) := by decide +kernel
theorem yv_X8_mayGo : YV yX8_mayGo cX8_mayGo 4 (some .boolean) 3 := ⟨m1152, ms49, m9, m1153, ⟨by decide +kernel, by decide +kernel, by decide +kernel⟩, by decide⟩
noncomputable def f_X8_mayGo (q : Nat) (x1 : Int32) (x2 : Int32) (x3 : Int32) (h : AH) : Option (Int32 × AH) := bd (f_X8_sideOf q x1 h) (fun v_2 h_1 => bd (f_X8_archOf q x2 v_2 h_1) (fun v_4 h_3 => bd (f_X8_mayBy q x1 x2 x3 v_4 h_3) (fun v_6 h_5 => gz v_6 (some (v_6, h_5)))))
set_option maxRecDepth 20000 in
set_option maxHeartbeats 4000000 in
theorem ct_X8_mayGo (l : Launch) (g : GC) {q : Nat} (hq : (gL g)[q]? = some (.inl 8)) (x1 : Int32) (x2 : Int32) (x3 : Int32) : Ct l yX8_mayGo cX8_mayGo 4 (some .boolean) 4 [.ref (gad g q), .int x1, .int x2, .int x3] g mkI (fun h => f_X8_mayGo q x1 x2 x3 h) := by
  refine Ct.of (by decide +kernel) (Nat.le_of_ble_eq_true rfl) (fun z A h _ F => ?_)
  show Snd z 4 g A (QF z g A mkI) 0 [(0, .ref (gad g q)), (1, .int x1), (2, .int x2), (3, .int x3)] [] h (f_X8_mayGo q x1 x2 x3 h)
  unfold f_X8_mayGo
  refine s_aload_n F dX8_mayGo_0 rfl 0 rfl ?_
  refine s_iload_n F dX8_mayGo_1 rfl 1 rfl ?_
  refine s_iload_n F dX8_mayGo_2 rfl 2 rfl ?_
  refine s_iload_n F dX8_mayGo_3 rfl 3 rfl ?_
  refine s_aload_n F dX8_mayGo_4 rfl 0 rfl ?_
  refine s_iload_n F dX8_mayGo_5 rfl 2 rfl ?_
  refine s_aload_n F dX8_mayGo_6 rfl 0 rfl ?_
  refine s_iload_n F dX8_mayGo_7 rfl 1 rfl ?_
  refine s_callVi (f := fun hh => f_X8_sideOf q x1 hh) (As := [.int x1]) F yv_X8_sideOf (ct_X8_sideOf z.2.1 g hq x1) (by decide) m1142 hq rfl rfl rfl (Nat.le_of_ble_eq_true rfl) dX8_mayGo_8 (fun v_2 h_1 e_v_2 => ?_)
  refine s_callVi (f := fun hh => f_X8_archOf q x2 v_2 hh) (As := [.int x2, .int v_2]) F yv_X8_archOf (ct_X8_archOf z.2.1 g hq x2 v_2) (by decide) m1154 hq rfl rfl rfl (Nat.le_of_ble_eq_true rfl) dX8_mayGo_11 (fun v_4 h_3 e_v_4 => ?_)
  refine s_callVi (f := fun hh => f_X8_mayBy q x1 x2 x3 v_4 hh) (As := [.int x1, .int x2, .int x3, .int v_4]) F yv_X8_mayBy (ct_X8_mayBy z.2.1 g hq x1 x2 x3 v_4) (by decide) m1158 hq rfl rfl rfl (Nat.le_of_ble_eq_true rfl) dX8_mayGo_14 (fun v_6 h_5 e_v_6 => ?_)
  exact s_zret F dX8_mayGo_17
theorem dX8_pass_0 : decode cX8_pass 0 = .ok (.aload_n 0, 1) := by decide +kernel
theorem dX8_pass_1 : decode cX8_pass 1 = .ok (.iconst 0, 1) := by decide +kernel
theorem dX8_pass_2 : decode cX8_pass 2 = .ok (.putfield 65, 3) := by decide +kernel
theorem dX8_pass_5 : decode cX8_pass 5 = .ok (.aload_n 0, 1) := by decide +kernel
theorem dX8_pass_6 : decode cX8_pass 6 = .ok (.iload_n 1, 1) := by decide +kernel
theorem dX8_pass_7 : decode cX8_pass 7 = .ok (.invokevirtual 237, 3) := by decide +kernel
theorem dX8_pass_10 : decode cX8_pass 10 = .ok (.ifCond .eq 11, 3) := by decide +kernel
theorem dX8_pass_13 : decode cX8_pass 13 = .ok (.aload_n 0, 1) := by decide +kernel
theorem dX8_pass_14 : decode cX8_pass 14 = .ok (.iload_n 2, 1) := by decide +kernel
theorem dX8_pass_15 : decode cX8_pass 15 = .ok (.invokevirtual 229, 3) := by decide +kernel
theorem dX8_pass_18 : decode cX8_pass 18 = .ok (.ifCond .ne 6, 3) := by decide +kernel
theorem dX8_pass_21 : decode cX8_pass 21 = .ok (.ldc 85, 2) := by decide +kernel
theorem dX8_pass_23 : decode cX8_pass 23 = .ok (.ireturn, 1) := by decide +kernel
theorem dX8_pass_24 : decode cX8_pass 24 = .ok (.aload_n 0, 1) := by decide +kernel
theorem dX8_pass_25 : decode cX8_pass 25 = .ok (.iload_n 1, 1) := by decide +kernel
theorem dX8_pass_26 : decode cX8_pass 26 = .ok (.invokevirtual 219, 3) := by decide +kernel
theorem dX8_pass_29 : decode cX8_pass 29 = .ok (.istore_n 3, 1) := by decide +kernel
theorem dX8_pass_30 : decode cX8_pass 30 = .ok (.aload_n 0, 1) := by decide +kernel
theorem dX8_pass_31 : decode cX8_pass 31 = .ok (.iload_n 1, 1) := by decide +kernel
theorem dX8_pass_32 : decode cX8_pass 32 = .ok (.bipush 6, 2) := by decide +kernel
theorem dX8_pass_34 : decode cX8_pass 34 = .ok (.invokevirtual 206, 3) := by decide +kernel
theorem dX8_pass_37 : decode cX8_pass 37 = .ok (.iconst 1, 1) := by decide +kernel
theorem dX8_pass_38 : decode cX8_pass 38 = .ok (.if_icmp .eq 30, 3) := by decide +kernel
theorem dX8_pass_41 : decode cX8_pass 41 = .ok (.aload_n 0, 1) := by decide +kernel
theorem dX8_pass_42 : decode cX8_pass 42 = .ok (.iload_n 1, 1) := by decide +kernel
theorem dX8_pass_43 : decode cX8_pass 43 = .ok (.iload_n 2, 1) := by decide +kernel
theorem dX8_pass_44 : decode cX8_pass 44 = .ok (.aload_n 0, 1) := by decide +kernel
theorem dX8_pass_45 : decode cX8_pass 45 = .ok (.getfield 19, 3) := by decide +kernel
theorem dX8_pass_48 : decode cX8_pass 48 = .ok (.iconst 2, 1) := by decide +kernel
theorem dX8_pass_49 : decode cX8_pass 49 = .ok (.iaload, 1) := by decide +kernel
theorem dX8_pass_50 : decode cX8_pass 50 = .ok (.invokevirtual 240, 3) := by decide +kernel
theorem dX8_pass_53 : decode cX8_pass 53 = .ok (.ifCond .eq 15, 3) := by decide +kernel
theorem dX8_pass_56 : decode cX8_pass 56 = .ok (.aload_n 0, 1) := by decide +kernel
theorem dX8_pass_57 : decode cX8_pass 57 = .ok (.iload_n 2, 1) := by decide +kernel
theorem dX8_pass_58 : decode cX8_pass 58 = .ok (.iconst 5, 1) := by decide +kernel
theorem dX8_pass_59 : decode cX8_pass 59 = .ok (.iload_n 3, 1) := by decide +kernel
theorem dX8_pass_60 : decode cX8_pass 60 = .ok (.iadd, 1) := by decide +kernel
theorem dX8_pass_61 : decode cX8_pass 61 = .ok (.invokevirtual 212, 3) := by decide +kernel
theorem dX8_pass_64 : decode cX8_pass 64 = .ok (.iconst 1, 1) := by decide +kernel
theorem dX8_pass_65 : decode cX8_pass 65 = .ok (.if_icmp .ne 6, 3) := by decide +kernel
theorem dX8_pass_68 : decode cX8_pass 68 = .ok (.ldc 244, 2) := by decide +kernel
theorem dX8_pass_70 : decode cX8_pass 70 = .ok (.ireturn, 1) := by decide +kernel
theorem dX8_pass_71 : decode cX8_pass 71 = .ok (.aload_n 0, 1) := by decide +kernel
theorem dX8_pass_72 : decode cX8_pass 72 = .ok (.invokevirtual 226, 3) := by decide +kernel
theorem dX8_pass_75 : decode cX8_pass 75 = .ok (.aload_n 0, 1) := by decide +kernel
theorem dX8_pass_76 : decode cX8_pass 76 = .ok (.iload_n 2, 1) := by decide +kernel
theorem dX8_pass_77 : decode cX8_pass 77 = .ok (.iconst 3, 1) := by decide +kernel
theorem dX8_pass_78 : decode cX8_pass 78 = .ok (.invokevirtual 212, 3) := by decide +kernel
theorem dX8_pass_81 : decode cX8_pass 81 = .ok (.aload_n 0, 1) := by decide +kernel
theorem dX8_pass_82 : decode cX8_pass 82 = .ok (.iload_n 1, 1) := by decide +kernel
theorem dX8_pass_83 : decode cX8_pass 83 = .ok (.invokevirtual 245, 3) := by decide +kernel
theorem dX8_pass_86 : decode cX8_pass 86 = .ok (.imul, 1) := by decide +kernel
theorem dX8_pass_87 : decode cX8_pass 87 = .ok (.aload_n 0, 1) := by decide +kernel
theorem dX8_pass_88 : decode cX8_pass 88 = .ok (.iload_n 1, 1) := by decide +kernel
theorem dX8_pass_89 : decode cX8_pass 89 = .ok (.invokevirtual 248, 3) := by decide +kernel
theorem dX8_pass_92 : decode cX8_pass 92 = .ok (.ifCond .eq 7, 3) := by decide +kernel
theorem dX8_pass_95 : decode cX8_pass 95 = .ok (.iconst 2, 1) := by decide +kernel
theorem dX8_pass_96 : decode cX8_pass 96 = .ok (.goto 4, 3) := by decide +kernel
theorem dX8_pass_99 : decode cX8_pass 99 = .ok (.iconst 1, 1) := by decide +kernel
theorem dX8_pass_100 : decode cX8_pass 100 = .ok (.imul, 1) := by decide +kernel
theorem dX8_pass_101 : decode cX8_pass 101 = .ok (.istore 4, 2) := by decide +kernel
theorem dX8_pass_103 : decode cX8_pass 103 = .ok (.aload_n 0, 1) := by decide +kernel
theorem dX8_pass_104 : decode cX8_pass 104 = .ok (.getfield 19, 3) := by decide +kernel
theorem dX8_pass_107 : decode cX8_pass 107 = .ok (.bipush 16, 2) := by decide +kernel
theorem dX8_pass_109 : decode cX8_pass 109 = .ok (.bipush 7, 2) := by decide +kernel
theorem dX8_pass_111 : decode cX8_pass 111 = .ok (.iload_n 2, 1) := by decide +kernel
theorem dX8_pass_112 : decode cX8_pass 112 = .ok (.imul, 1) := by decide +kernel
theorem dX8_pass_113 : decode cX8_pass 113 = .ok (.iadd, 1) := by decide +kernel
theorem dX8_pass_114 : decode cX8_pass 114 = .ok (.iconst 5, 1) := by decide +kernel
theorem dX8_pass_115 : decode cX8_pass 115 = .ok (.iadd, 1) := by decide +kernel
theorem dX8_pass_116 : decode cX8_pass 116 = .ok (.iload_n 3, 1) := by decide +kernel
theorem dX8_pass_117 : decode cX8_pass 117 = .ok (.iadd, 1) := by decide +kernel
theorem dX8_pass_118 : decode cX8_pass 118 = .ok (.iconst 1, 1) := by decide +kernel
theorem dX8_pass_119 : decode cX8_pass 119 = .ok (.iastore, 1) := by decide +kernel
theorem dX8_pass_120 : decode cX8_pass 120 = .ok (.aload_n 0, 1) := by decide +kernel
theorem dX8_pass_121 : decode cX8_pass 121 = .ok (.getfield 19, 3) := by decide +kernel
theorem dX8_pass_124 : decode cX8_pass 124 = .ok (.bipush 58, 2) := by decide +kernel
theorem dX8_pass_126 : decode cX8_pass 126 = .ok (.bipush 7, 2) := by decide +kernel
theorem dX8_pass_128 : decode cX8_pass 128 = .ok (.iload_n 1, 1) := by decide +kernel
theorem dX8_pass_129 : decode cX8_pass 129 = .ok (.imul, 1) := by decide +kernel
theorem dX8_pass_130 : decode cX8_pass 130 = .ok (.iadd, 1) := by decide +kernel
theorem dX8_pass_131 : decode cX8_pass 131 = .ok (.bipush 6, 2) := by decide +kernel
theorem dX8_pass_133 : decode cX8_pass 133 = .ok (.iadd, 1) := by decide +kernel
theorem dX8_pass_134 : decode cX8_pass 134 = .ok (.iconst 1, 1) := by decide +kernel
theorem dX8_pass_135 : decode cX8_pass 135 = .ok (.iastore, 1) := by decide +kernel
theorem dX8_pass_136 : decode cX8_pass 136 = .ok (.aload_n 0, 1) := by decide +kernel
theorem dX8_pass_137 : decode cX8_pass 137 = .ok (.getfield 19, 3) := by decide +kernel
theorem dX8_pass_140 : decode cX8_pass 140 = .ok (.iconst 3, 1) := by decide +kernel
theorem dX8_pass_141 : decode cX8_pass 141 = .ok (.dup2, 1) := by decide +kernel
theorem dX8_pass_142 : decode cX8_pass 142 = .ok (.iaload, 1) := by decide +kernel
theorem dX8_pass_143 : decode cX8_pass 143 = .ok (.iload 4, 2) := by decide +kernel
theorem dX8_pass_145 : decode cX8_pass 145 = .ok (.iadd, 1) := by decide +kernel
theorem dX8_pass_146 : decode cX8_pass 146 = .ok (.iastore, 1) := by decide +kernel
theorem dX8_pass_147 : decode cX8_pass 147 = .ok (.iload 4, 2) := by decide +kernel
theorem dX8_pass_149 : decode cX8_pass 149 = .ok (.ireturn, 1) := by decide +kernel
theorem yv_X8_pass : YV yX8_pass cX8_pass 5 (some .int) 2 := ⟨m1135, m1136, m9, m1137, ⟨by decide +kernel, by decide +kernel, by decide +kernel⟩, by decide⟩
noncomputable def f_X8_pass_100 (q : Nat) (x1 : Int32) (x2 : Int32) (x3 : Int32) (y0 : Int32) (y1 : Int32) (h : AH) : Option (Int32 × AH) := lt ((y1 * y0)) (fun v_1 => lt ((((16 + (7 * x2)) + 5) + x3)) (fun v_3 => ck v_3 100 (lt (hset h (q + 4) (v_3 : Int32).toNatClampNeg 1) (fun h_4 => lt (((58 + (7 * x1)) + 6)) (fun v_6 => ck v_6 100 (lt (hset h_4 (q + 4) (v_6 : Int32).toNatClampNeg 1) (fun h_7 => ck 3 100 (ck 3 100 (lt (hset h_7 (q + 4) (3 : Int32).toNatClampNeg ((h_7 (q + 4) (3 : Int32).toNatClampNeg) + v_1)) (fun h_9 => some (v_1, h_9)))))))))))
set_option maxRecDepth 20000 in
set_option maxHeartbeats 4000000 in
theorem t_X8_pass_100 {z : MC} {g : GC} {A : Nat → Prop} (F : Fx z cX8_pass 5 RX8 (some .int) 5 g A) {q : Nat} (hq : (gL g)[q]? = some (.inl 8)) : ∀ (x1 : Int32) (x2 : Int32) (x3 : Int32) (y0 : Int32) (y1 : Int32) (h : AH), Snd z 5 g A (QF z g A mkI) 100 [(0, .ref (gad g q)), (1, .int x1), (2, .int x2), (3, .int x3)] [.int y0, .int y1] h (f_X8_pass_100 q x1 x2 x3 y0 y1 h) := by
  intro x1 x2 x3 y0 y1 h
  unfold f_X8_pass_100
  refine s_imul F dX8_pass_100 ?_
  refine s_leti (fun v_1 => ?_)
  refine s_istore F (lv' := [(4, .int v_1), (0, .ref (gad g q)), (1, .int x1), (2, .int x2), (3, .int x3)]) dX8_pass_101 (by decide) rfl ?_
  refine s_aload_n F dX8_pass_103 rfl 1 rfl ?_
  have hw_2 := wf_ref F.2.2.2.2.2.2.1 hq 5 4 (.inr (0, 100)) rfl
  refine s_getr F ciX8 5 4 (.inr (0, 100)) hq (by decide) rfl rfl m898 dX8_pass_104 ?_
  refine s_bipush F (v := 16) dX8_pass_107 (by decide) ?_
  refine s_bipush F (v := 7) dX8_pass_109 (by decide) ?_
  refine s_iload_n F dX8_pass_111 rfl 3 rfl ?_
  refine s_imul F dX8_pass_112 ?_
  refine s_iadd F dX8_pass_113 ?_
  refine s_iconst F (v := 5) dX8_pass_114 (by decide) ?_
  refine s_iadd F dX8_pass_115 ?_
  refine s_iload_n F dX8_pass_116 rfl 4 rfl ?_
  refine s_iadd F dX8_pass_117 ?_
  refine s_iconst F (v := 1) dX8_pass_118 (by decide) ?_
  refine s_leti2 (fun v_3 => ?_)
  refine s_iast F hw_2 dX8_pass_119 ?_
  refine s_letH (fun h_4 => ?_)
  refine s_aload_n F dX8_pass_120 rfl 1 rfl ?_
  have hw_5 := wf_ref F.2.2.2.2.2.2.1 hq 5 4 (.inr (0, 100)) rfl
  refine s_getr F ciX8 5 4 (.inr (0, 100)) hq (by decide) rfl rfl m898 dX8_pass_121 ?_
  refine s_bipush F (v := 58) dX8_pass_124 (by decide) ?_
  refine s_bipush F (v := 7) dX8_pass_126 (by decide) ?_
  refine s_iload_n F dX8_pass_128 rfl 2 rfl ?_
  refine s_imul F dX8_pass_129 ?_
  refine s_iadd F dX8_pass_130 ?_
  refine s_bipush F (v := 6) dX8_pass_131 (by decide) ?_
  refine s_iadd F dX8_pass_133 ?_
  refine s_iconst F (v := 1) dX8_pass_134 (by decide) ?_
  refine s_leti2 (fun v_6 => ?_)
  refine s_iast F hw_5 dX8_pass_135 ?_
  refine s_letH (fun h_7 => ?_)
  refine s_aload_n F dX8_pass_136 rfl 1 rfl ?_
  have hw_8 := wf_ref F.2.2.2.2.2.2.1 hq 5 4 (.inr (0, 100)) rfl
  refine s_getr F ciX8 5 4 (.inr (0, 100)) hq (by decide) rfl rfl m898 dX8_pass_137 ?_
  refine s_iconst F (v := 3) dX8_pass_140 (by decide) ?_
  refine s_dup2 F dX8_pass_141 rfl rfl ?_
  refine s_iald F hw_8 dX8_pass_142 ?_
  refine s_iload F dX8_pass_143 0 rfl ?_
  refine s_iadd F dX8_pass_145 ?_
  refine s_iast F hw_8 dX8_pass_146 ?_
  refine s_letH (fun h_9 => ?_)
  refine s_iload F dX8_pass_147 0 rfl ?_
  exact s_iret F dX8_pass_149
noncomputable def f_X8_pass (q : Nat) (x1 : Int32) (x2 : Int32) (h : AH) : Option (Int32 × AH) := lt (hset h q 0 0) (fun h_1 => bd (f_X8_isBoat q x1 h_1) (fun v_3 h_2 => if v_3 = 0 then (some ((-1000001), h_2)) else (bd (f_X8_isArch q x2 h_2) (fun v_5 h_4 => if v_5 = 0 then (some ((-1000001), h_4)) else (bd (f_X8_sideOf q x1 h_4) (fun v_7 h_6 => bd (f_X8_of q x1 6 h_6) (fun v_9 h_8 => if v_9 = 1 then (some ((-1000002), h_8)) else (ck 2 100 (bd (f_X8_mayGo q x1 x2 (h_8 (q + 4) (2 : Int32).toNatClampNeg) h_8) (fun v_12 h_11 => if v_12 = 0 then (some ((-1000002), h_11)) else (bd (f_X8_archOf q x2 (5 + v_7) h_11) (fun v_14 h_13 => if v_14 = 1 then (some ((-1000002), h_13)) else (bd (f_X8_keep q h_13) (fun _ h_15 => bd (f_X8_archOf q x2 3 h_15) (fun v_18 h_17 => bd (f_X8_allOf q x1 h_17) (fun v_20 h_19 => bd (f_X8_isMixed q x1 h_19) (fun v_22 h_21 => if v_22 = 0 then (f_X8_pass_100 q x1 x2 v_7 1 (v_18 * v_20) h_21) else (f_X8_pass_100 q x1 x2 v_7 2 (v_18 * v_20) h_21))))))))))))))))))
set_option maxRecDepth 20000 in
set_option maxHeartbeats 4000000 in
theorem ct_X8_pass (l : Launch) (g : GC) {q : Nat} (hq : (gL g)[q]? = some (.inl 8)) (x1 : Int32) (x2 : Int32) : Ct l yX8_pass cX8_pass 5 (some .int) 5 [.ref (gad g q), .int x1, .int x2] g mkI (fun h => f_X8_pass q x1 x2 h) := by
  refine Ct.of (by decide +kernel) (Nat.le_of_ble_eq_true rfl) (fun z A h _ F => ?_)
  show Snd z 5 g A (QF z g A mkI) 0 [(0, .ref (gad g q)), (1, .int x1), (2, .int x2)] [] h (f_X8_pass q x1 x2 h)
  unfold f_X8_pass
  refine s_aload_n F dX8_pass_0 rfl 0 rfl ?_
  refine s_iconst F (v := 0) dX8_pass_1 (by decide) ?_
  refine s_put F ciX8 (k := 0) hq (by decide) rfl rfl rfl rfl m893 dX8_pass_2 ?_
  refine s_letH (fun h_1 => ?_)
  refine s_aload_n F dX8_pass_5 rfl 0 rfl ?_
  refine s_iload_n F dX8_pass_6 rfl 1 rfl ?_
  refine s_callVi (f := fun hh => f_X8_isBoat q x1 hh) (As := [.int x1]) F yv_X8_isBoat (ct_X8_isBoat z.2.1 g hq x1) (by decide) m1138 hq rfl rfl rfl (Nat.le_of_ble_eq_true rfl) dX8_pass_7 (fun v_3 h_2 e_v_3 => ?_)
  refine s_if_eq F 21 dX8_pass_10 (by decide) (fun _ => ?_) (fun _ => ?_)
  · refine s_ldc F (v := (-1000001)) dX8_pass_21 m1009 ?_
    exact s_iret F dX8_pass_23
  · refine s_aload_n F dX8_pass_13 rfl 0 rfl ?_
    refine s_iload_n F dX8_pass_14 rfl 2 rfl ?_
    refine s_callVi (f := fun hh => f_X8_isArch q x2 hh) (As := [.int x2]) F yv_X8_isArch (ct_X8_isArch z.2.1 g hq x2) (by decide) m1117 hq rfl rfl rfl (Nat.le_of_ble_eq_true rfl) dX8_pass_15 (fun v_5 h_4 e_v_5 => ?_)
    refine s_if_ne F 24 dX8_pass_18 (by decide) (fun _ => ?_) (fun _ => ?_)
    · refine s_aload_n F dX8_pass_24 rfl 0 rfl ?_
      refine s_iload_n F dX8_pass_25 rfl 1 rfl ?_
      refine s_callVi (f := fun hh => f_X8_sideOf q x1 hh) (As := [.int x1]) F yv_X8_sideOf (ct_X8_sideOf z.2.1 g hq x1) (by decide) m1142 hq rfl rfl rfl (Nat.le_of_ble_eq_true rfl) dX8_pass_26 (fun v_7 h_6 e_v_7 => ?_)
      refine s_istore_n F (lv' := [(3, .int v_7), (0, .ref (gad g q)), (1, .int x1), (2, .int x2)]) dX8_pass_29 rfl (by decide) rfl ?_
      refine s_aload_n F dX8_pass_30 rfl 1 rfl ?_
      refine s_iload_n F dX8_pass_31 rfl 2 rfl ?_
      refine s_bipush F (v := 6) dX8_pass_32 (by decide) ?_
      refine s_callVi (f := fun hh => f_X8_of q x1 6 hh) (As := [.int x1, .int 6]) F yv_X8_of (ct_X8_of z.2.1 g hq x1 6) (by decide) m1146 hq rfl rfl rfl (Nat.le_of_ble_eq_true rfl) dX8_pass_34 (fun v_9 h_8 e_v_9 => ?_)
      refine s_iconst F (v := 1) dX8_pass_37 (by decide) ?_
      refine s_icmp_eq F 68 dX8_pass_38 (by decide) (fun _ => ?_) (fun _ => ?_)
      · refine s_ldc F (v := (-1000002)) dX8_pass_68 m1169 ?_
        exact s_iret F dX8_pass_70
      · refine s_aload_n F dX8_pass_41 rfl 1 rfl ?_
        refine s_iload_n F dX8_pass_42 rfl 2 rfl ?_
        refine s_iload_n F dX8_pass_43 rfl 3 rfl ?_
        refine s_aload_n F dX8_pass_44 rfl 1 rfl ?_
        have hw_10 := wf_ref F.2.2.2.2.2.2.1 hq 5 4 (.inr (0, 100)) rfl
        refine s_getr F ciX8 5 4 (.inr (0, 100)) hq (by decide) rfl rfl m898 dX8_pass_45 ?_
        refine s_iconst F (v := 2) dX8_pass_48 (by decide) ?_
        refine s_iald F hw_10 dX8_pass_49 ?_
        refine s_callVi (f := fun hh => f_X8_mayGo q x1 x2 (h_8 (q + 4) (2 : Int32).toNatClampNeg) hh) (As := [.int x1, .int x2, .int (h_8 (q + 4) (2 : Int32).toNatClampNeg)]) F yv_X8_mayGo (ct_X8_mayGo z.2.1 g hq x1 x2 (h_8 (q + 4) (2 : Int32).toNatClampNeg)) (by decide) m1150 hq rfl rfl rfl (Nat.le_of_ble_eq_true rfl) dX8_pass_50 (fun v_12 h_11 e_v_12 => ?_)
        refine s_if_eq F 68 dX8_pass_53 (by decide) (fun _ => ?_) (fun _ => ?_)
        · refine s_ldc F (v := (-1000002)) dX8_pass_68 m1169 ?_
          exact s_iret F dX8_pass_70
        · refine s_aload_n F dX8_pass_56 rfl 1 rfl ?_
          refine s_iload_n F dX8_pass_57 rfl 3 rfl ?_
          refine s_iconst F (v := 5) dX8_pass_58 (by decide) ?_
          refine s_iload_n F dX8_pass_59 rfl 0 rfl ?_
          refine s_iadd F dX8_pass_60 ?_
          refine s_callVi (f := fun hh => f_X8_archOf q x2 (5 + v_7) hh) (As := [.int x2, .int (5 + v_7)]) F yv_X8_archOf (ct_X8_archOf z.2.1 g hq x2 (5 + v_7)) (by decide) m1154 hq rfl rfl rfl (Nat.le_of_ble_eq_true rfl) dX8_pass_61 (fun v_14 h_13 e_v_14 => ?_)
          refine s_iconst F (v := 1) dX8_pass_64 (by decide) ?_
          refine s_icmp_ne F 71 dX8_pass_65 (by decide) (fun _ => ?_) (fun _ => ?_)
          · refine s_aload_n F dX8_pass_71 rfl 1 rfl ?_
            refine s_callVu (f := fun hh => f_X8_keep q hh) (As := []) F yv_X8_keep (ct_X8_keep z.2.1 g hq) (by decide) m1126 hq rfl rfl rfl (Nat.le_of_ble_eq_true rfl) dX8_pass_72 (fun _ h_15 e_v_16 => ?_)
            refine s_aload_n F dX8_pass_75 rfl 1 rfl ?_
            refine s_iload_n F dX8_pass_76 rfl 3 rfl ?_
            refine s_iconst F (v := 3) dX8_pass_77 (by decide) ?_
            refine s_callVi (f := fun hh => f_X8_archOf q x2 3 hh) (As := [.int x2, .int 3]) F yv_X8_archOf (ct_X8_archOf z.2.1 g hq x2 3) (by decide) m1154 hq rfl rfl rfl (Nat.le_of_ble_eq_true rfl) dX8_pass_78 (fun v_18 h_17 e_v_18 => ?_)
            refine s_aload_n F dX8_pass_81 rfl 1 rfl ?_
            refine s_iload_n F dX8_pass_82 rfl 2 rfl ?_
            refine s_callVi (f := fun hh => f_X8_allOf q x1 hh) (As := [.int x1]) F yv_X8_allOf (ct_X8_allOf z.2.1 g hq x1) (by decide) m1170 hq rfl rfl rfl (Nat.le_of_ble_eq_true rfl) dX8_pass_83 (fun v_20 h_19 e_v_20 => ?_)
            refine s_imul F dX8_pass_86 ?_
            refine s_aload_n F dX8_pass_87 rfl 1 rfl ?_
            refine s_iload_n F dX8_pass_88 rfl 2 rfl ?_
            refine s_callVi (f := fun hh => f_X8_isMixed q x1 hh) (As := [.int x1]) F yv_X8_isMixed (ct_X8_isMixed z.2.1 g hq x1) (by decide) m1174 hq rfl rfl rfl (Nat.le_of_ble_eq_true rfl) dX8_pass_89 (fun v_22 h_21 e_v_22 => ?_)
            refine s_if_eq F 99 dX8_pass_92 (by decide) (fun _ => ?_) (fun _ => ?_)
            · refine s_iconst F (v := 1) dX8_pass_99 (by decide) ?_
              exact s_sub [1, 2, 3, 0] rfl (t_X8_pass_100 F hq x1 x2 v_7 1 (v_18 * v_20) h_21)
            · refine s_iconst F (v := 2) dX8_pass_95 (by decide) ?_
              refine s_goto F 100 dX8_pass_96 (by decide) ?_
              exact s_sub [1, 2, 3, 0] rfl (t_X8_pass_100 F hq x1 x2 v_7 2 (v_18 * v_20) h_21)
          · refine s_ldc F (v := (-1000002)) dX8_pass_68 m1169 ?_
            exact s_iret F dX8_pass_70
    · refine s_ldc F (v := (-1000001)) dX8_pass_21 m1009 ?_
      exact s_iret F dX8_pass_23
theorem dX8_isTrade_0 : decode cX8_isTrade 0 = .ok (.iload_n 0, 1) := by decide +kernel
theorem dX8_isTrade_1 : decode cX8_isTrade 1 = .ok (.i2l, 1) := by decide +kernel
theorem dX8_isTrade_2 : decode cX8_isTrade 2 = .ok (.lconst 0, 1) := by decide +kernel
theorem dX8_isTrade_3 : decode cX8_isTrade 3 = .ok (.ldc2_w 204, 3) := by decide +kernel
theorem dX8_isTrade_6 : decode cX8_isTrade 6 = .ok (.invokestatic 75, 3) := by decide +kernel
theorem dX8_isTrade_9 : decode cX8_isTrade 9 = .ok (.ireturn, 1) := by decide +kernel
theorem ys_X8_isTrade : YS yX8_isTrade cX8_isTrade 1 (some .boolean) 1 := ⟨m1183, m9, m1184, ⟨by decide +kernel, by decide +kernel, by decide +kernel⟩, by decide⟩
noncomputable def f_X8_isTrade (x0 : Int32) (h : AH) : Option (Int32 × AH) := bd (f_X8_in ((x0 : Int32).toInt64) 0 3 h) (fun v_2 h_1 => gz v_2 (some (v_2, h_1)))
set_option maxRecDepth 20000 in
set_option maxHeartbeats 4000000 in
theorem ct_X8_isTrade (l : Launch) (g : GC) (x0 : Int32) : Ct l yX8_isTrade cX8_isTrade 1 (some .boolean) 2 [.int x0] g mkI (fun h => f_X8_isTrade x0 h) := by
  refine Ct.of (by decide +kernel) (Nat.le_of_ble_eq_true rfl) (fun z A h _ F => ?_)
  show Snd z 1 g A (QF z g A mkI) 0 [(0, .int x0)] [] h (f_X8_isTrade x0 h)
  unfold f_X8_isTrade
  refine s_iload_n F dX8_isTrade_0 rfl 0 rfl ?_
  refine s_i2l F dX8_isTrade_1 ?_
  refine s_lconst F (v := 0) dX8_isTrade_2 (by decide) ?_
  refine s_ldc2 F (v := 3) dX8_isTrade_3 m1185 ?_
  refine s_callSi (f := fun hh => f_X8_in ((x0 : Int32).toInt64) 0 3 hh) (As := [.long ((x0 : Int32).toInt64), .long 0, .long 3]) F ys_X8_in (ct_X8_in z.2.1 g ((x0 : Int32).toInt64) 0 3) (by decide) m1005 rfl rfl (Nat.le_of_ble_eq_true rfl) dX8_isTrade_6 (fun v_2 h_1 e_v_2 => ?_)
  exact s_zret F dX8_isTrade_9
theorem dX8_split_0 : decode cX8_split 0 = .ok (.aload_n 0, 1) := by decide +kernel
theorem dX8_split_1 : decode cX8_split 1 = .ok (.iconst 0, 1) := by decide +kernel
theorem dX8_split_2 : decode cX8_split 2 = .ok (.putfield 65, 3) := by decide +kernel
theorem dX8_split_5 : decode cX8_split 5 = .ok (.aload_n 0, 1) := by decide +kernel
theorem dX8_split_6 : decode cX8_split 6 = .ok (.iload_n 1, 1) := by decide +kernel
theorem dX8_split_7 : decode cX8_split 7 = .ok (.invokevirtual 237, 3) := by decide +kernel
theorem dX8_split_10 : decode cX8_split 10 = .ok (.ifCond .eq 10, 3) := by decide +kernel
theorem dX8_split_13 : decode cX8_split 13 = .ok (.iload_n 2, 1) := by decide +kernel
theorem dX8_split_14 : decode cX8_split 14 = .ok (.invokestatic 251, 3) := by decide +kernel
theorem dX8_split_17 : decode cX8_split 17 = .ok (.ifCond .ne 6, 3) := by decide +kernel
theorem dX8_split_20 : decode cX8_split 20 = .ok (.ldc 85, 2) := by decide +kernel
theorem dX8_split_22 : decode cX8_split 22 = .ok (.ireturn, 1) := by decide +kernel
theorem dX8_split_23 : decode cX8_split 23 = .ok (.aload_n 0, 1) := by decide +kernel
theorem dX8_split_24 : decode cX8_split 24 = .ok (.iload_n 1, 1) := by decide +kernel
theorem dX8_split_25 : decode cX8_split 25 = .ok (.iconst 2, 1) := by decide +kernel
theorem dX8_split_26 : decode cX8_split 26 = .ok (.iload_n 2, 1) := by decide +kernel
theorem dX8_split_27 : decode cX8_split 27 = .ok (.iadd, 1) := by decide +kernel
theorem dX8_split_28 : decode cX8_split 28 = .ok (.invokevirtual 206, 3) := by decide +kernel
theorem dX8_split_31 : decode cX8_split 31 = .ok (.istore_n 3, 1) := by decide +kernel
theorem dX8_split_32 : decode cX8_split 32 = .ok (.aload_n 0, 1) := by decide +kernel
theorem dX8_split_33 : decode cX8_split 33 = .ok (.iload_n 1, 1) := by decide +kernel
theorem dX8_split_34 : decode cX8_split 34 = .ok (.bipush 6, 2) := by decide +kernel
theorem dX8_split_36 : decode cX8_split 36 = .ok (.invokevirtual 206, 3) := by decide +kernel
theorem dX8_split_39 : decode cX8_split 39 = .ok (.iconst 1, 1) := by decide +kernel
theorem dX8_split_40 : decode cX8_split 40 = .ok (.if_icmp .eq 16, 3) := by decide +kernel
theorem dX8_split_43 : decode cX8_split 43 = .ok (.iload_n 3, 1) := by decide +kernel
theorem dX8_split_44 : decode cX8_split 44 = .ok (.ifCond .eq 12, 3) := by decide +kernel
theorem dX8_split_47 : decode cX8_split 47 = .ok (.iload_n 3, 1) := by decide +kernel
theorem dX8_split_48 : decode cX8_split 48 = .ok (.aload_n 0, 1) := by decide +kernel
theorem dX8_split_49 : decode cX8_split 49 = .ok (.iload_n 1, 1) := by decide +kernel
theorem dX8_split_50 : decode cX8_split 50 = .ok (.invokevirtual 245, 3) := by decide +kernel
theorem dX8_split_53 : decode cX8_split 53 = .ok (.if_icmp .ne 6, 3) := by decide +kernel
theorem dX8_split_56 : decode cX8_split 56 = .ok (.ldc 244, 2) := by decide +kernel
theorem dX8_split_58 : decode cX8_split 58 = .ok (.ireturn, 1) := by decide +kernel
theorem dX8_split_59 : decode cX8_split 59 = .ok (.aload_n 0, 1) := by decide +kernel
theorem dX8_split_60 : decode cX8_split 60 = .ok (.getfield 19, 3) := by decide +kernel
theorem dX8_split_63 : decode cX8_split 63 = .ok (.iconst 1, 1) := by decide +kernel
theorem dX8_split_64 : decode cX8_split 64 = .ok (.iaload, 1) := by decide +kernel
theorem dX8_split_65 : decode cX8_split 65 = .ok (.istore 4, 2) := by decide +kernel
theorem dX8_split_67 : decode cX8_split 67 = .ok (.iload 4, 2) := by decide +kernel
theorem dX8_split_69 : decode cX8_split 69 = .ok (.bipush 6, 2) := by decide +kernel
theorem dX8_split_71 : decode cX8_split 71 = .ok (.if_icmp .ne 6, 3) := by decide +kernel
theorem dX8_split_74 : decode cX8_split 74 = .ok (.ldc 95, 2) := by decide +kernel
theorem dX8_split_76 : decode cX8_split 76 = .ok (.ireturn, 1) := by decide +kernel
theorem dX8_split_77 : decode cX8_split 77 = .ok (.aload_n 0, 1) := by decide +kernel
theorem dX8_split_78 : decode cX8_split 78 = .ok (.invokevirtual 226, 3) := by decide +kernel
theorem dX8_split_81 : decode cX8_split 81 = .ok (.iconst 0, 1) := by decide +kernel
theorem dX8_split_82 : decode cX8_split 82 = .ok (.istore 5, 2) := by decide +kernel
theorem dX8_split_84 : decode cX8_split 84 = .ok (.iload 5, 2) := by decide +kernel
theorem dX8_split_86 : decode cX8_split 86 = .ok (.bipush 7, 2) := by decide +kernel
theorem dX8_split_88 : decode cX8_split 88 = .ok (.if_icmp .ge 26, 3) := by decide +kernel
theorem dX8_split_91 : decode cX8_split 91 = .ok (.aload_n 0, 1) := by decide +kernel
theorem dX8_split_92 : decode cX8_split 92 = .ok (.getfield 19, 3) := by decide +kernel
theorem dX8_split_95 : decode cX8_split 95 = .ok (.bipush 58, 2) := by decide +kernel
theorem dX8_split_97 : decode cX8_split 97 = .ok (.bipush 7, 2) := by decide +kernel
theorem dX8_split_99 : decode cX8_split 99 = .ok (.iload 4, 2) := by decide +kernel
theorem dX8_split_101 : decode cX8_split 101 = .ok (.imul, 1) := by decide +kernel
theorem dX8_split_102 : decode cX8_split 102 = .ok (.iadd, 1) := by decide +kernel
theorem dX8_split_103 : decode cX8_split 103 = .ok (.iload 5, 2) := by decide +kernel
theorem dX8_split_105 : decode cX8_split 105 = .ok (.iadd, 1) := by decide +kernel
theorem dX8_split_106 : decode cX8_split 106 = .ok (.iconst 0, 1) := by decide +kernel
theorem dX8_split_107 : decode cX8_split 107 = .ok (.iastore, 1) := by decide +kernel
theorem dX8_split_108 : decode cX8_split 108 = .ok (.iinc 5 1, 3) := by decide +kernel
theorem dX8_split_111 : decode cX8_split 111 = .ok (.goto (-27), 3) := by decide +kernel
theorem dX8_split_114 : decode cX8_split 114 = .ok (.aload_n 0, 1) := by decide +kernel
theorem dX8_split_115 : decode cX8_split 115 = .ok (.getfield 19, 3) := by decide +kernel
theorem dX8_split_118 : decode cX8_split 118 = .ok (.bipush 58, 2) := by decide +kernel
theorem dX8_split_120 : decode cX8_split 120 = .ok (.bipush 7, 2) := by decide +kernel
theorem dX8_split_122 : decode cX8_split 122 = .ok (.iload 4, 2) := by decide +kernel
theorem dX8_split_124 : decode cX8_split 124 = .ok (.imul, 1) := by decide +kernel
theorem dX8_split_125 : decode cX8_split 125 = .ok (.iadd, 1) := by decide +kernel
theorem dX8_split_126 : decode cX8_split 126 = .ok (.aload_n 0, 1) := by decide +kernel
theorem dX8_split_127 : decode cX8_split 127 = .ok (.iload_n 1, 1) := by decide +kernel
theorem dX8_split_128 : decode cX8_split 128 = .ok (.iconst 0, 1) := by decide +kernel
theorem dX8_split_129 : decode cX8_split 129 = .ok (.invokevirtual 206, 3) := by decide +kernel
theorem dX8_split_132 : decode cX8_split 132 = .ok (.iastore, 1) := by decide +kernel
theorem dX8_split_133 : decode cX8_split 133 = .ok (.aload_n 0, 1) := by decide +kernel
theorem dX8_split_134 : decode cX8_split 134 = .ok (.getfield 19, 3) := by decide +kernel
theorem dX8_split_137 : decode cX8_split 137 = .ok (.bipush 58, 2) := by decide +kernel
theorem dX8_split_139 : decode cX8_split 139 = .ok (.bipush 7, 2) := by decide +kernel
theorem dX8_split_141 : decode cX8_split 141 = .ok (.iload 4, 2) := by decide +kernel
theorem dX8_split_143 : decode cX8_split 143 = .ok (.imul, 1) := by decide +kernel
theorem dX8_split_144 : decode cX8_split 144 = .ok (.iadd, 1) := by decide +kernel
theorem dX8_split_145 : decode cX8_split 145 = .ok (.iconst 1, 1) := by decide +kernel
theorem dX8_split_146 : decode cX8_split 146 = .ok (.iadd, 1) := by decide +kernel
theorem dX8_split_147 : decode cX8_split 147 = .ok (.aload_n 0, 1) := by decide +kernel
theorem dX8_split_148 : decode cX8_split 148 = .ok (.iload_n 1, 1) := by decide +kernel
theorem dX8_split_149 : decode cX8_split 149 = .ok (.iconst 1, 1) := by decide +kernel
theorem dX8_split_150 : decode cX8_split 150 = .ok (.invokevirtual 206, 3) := by decide +kernel
theorem dX8_split_153 : decode cX8_split 153 = .ok (.iastore, 1) := by decide +kernel
theorem dX8_split_154 : decode cX8_split 154 = .ok (.aload_n 0, 1) := by decide +kernel
theorem dX8_split_155 : decode cX8_split 155 = .ok (.getfield 19, 3) := by decide +kernel
theorem dX8_split_158 : decode cX8_split 158 = .ok (.bipush 58, 2) := by decide +kernel
theorem dX8_split_160 : decode cX8_split 160 = .ok (.bipush 7, 2) := by decide +kernel
theorem dX8_split_162 : decode cX8_split 162 = .ok (.iload 4, 2) := by decide +kernel
theorem dX8_split_164 : decode cX8_split 164 = .ok (.imul, 1) := by decide +kernel
theorem dX8_split_165 : decode cX8_split 165 = .ok (.iadd, 1) := by decide +kernel
theorem dX8_split_166 : decode cX8_split 166 = .ok (.iconst 2, 1) := by decide +kernel
theorem dX8_split_167 : decode cX8_split 167 = .ok (.iadd, 1) := by decide +kernel
theorem dX8_split_168 : decode cX8_split 168 = .ok (.iload_n 2, 1) := by decide +kernel
theorem dX8_split_169 : decode cX8_split 169 = .ok (.iadd, 1) := by decide +kernel
theorem dX8_split_170 : decode cX8_split 170 = .ok (.iload_n 3, 1) := by decide +kernel
theorem dX8_split_171 : decode cX8_split 171 = .ok (.iastore, 1) := by decide +kernel
theorem dX8_split_172 : decode cX8_split 172 = .ok (.aload_n 0, 1) := by decide +kernel
theorem dX8_split_173 : decode cX8_split 173 = .ok (.getfield 19, 3) := by decide +kernel
theorem dX8_split_176 : decode cX8_split 176 = .ok (.bipush 58, 2) := by decide +kernel
theorem dX8_split_178 : decode cX8_split 178 = .ok (.bipush 7, 2) := by decide +kernel
theorem dX8_split_180 : decode cX8_split 180 = .ok (.iload_n 1, 1) := by decide +kernel
theorem dX8_split_181 : decode cX8_split 181 = .ok (.imul, 1) := by decide +kernel
theorem dX8_split_182 : decode cX8_split 182 = .ok (.iadd, 1) := by decide +kernel
theorem dX8_split_183 : decode cX8_split 183 = .ok (.iconst 2, 1) := by decide +kernel
theorem dX8_split_184 : decode cX8_split 184 = .ok (.iadd, 1) := by decide +kernel
theorem dX8_split_185 : decode cX8_split 185 = .ok (.iload_n 2, 1) := by decide +kernel
theorem dX8_split_186 : decode cX8_split 186 = .ok (.iadd, 1) := by decide +kernel
theorem dX8_split_187 : decode cX8_split 187 = .ok (.iconst 0, 1) := by decide +kernel
theorem dX8_split_188 : decode cX8_split 188 = .ok (.iastore, 1) := by decide +kernel
theorem dX8_split_189 : decode cX8_split 189 = .ok (.aload_n 0, 1) := by decide +kernel
theorem dX8_split_190 : decode cX8_split 190 = .ok (.getfield 19, 3) := by decide +kernel
theorem dX8_split_193 : decode cX8_split 193 = .ok (.iconst 1, 1) := by decide +kernel
theorem dX8_split_194 : decode cX8_split 194 = .ok (.dup2, 1) := by decide +kernel
theorem dX8_split_195 : decode cX8_split 195 = .ok (.iaload, 1) := by decide +kernel
theorem dX8_split_196 : decode cX8_split 196 = .ok (.iconst 1, 1) := by decide +kernel
theorem dX8_split_197 : decode cX8_split 197 = .ok (.iadd, 1) := by decide +kernel
theorem dX8_split_198 : decode cX8_split 198 = .ok (.iastore, 1) := by decide +kernel
theorem dX8_split_199 : decode cX8_split 199 = .ok (.iload 4, 2) := by decide +kernel
theorem dX8_split_201 : decode cX8_split 201 = .ok (.ireturn, 1) := by decide +kernel
theorem yv_X8_split : YV yX8_split cX8_split 6 (some .int) 2 := ⟨m1179, m1180, m9, m1181, ⟨by decide +kernel, by decide +kernel, by decide +kernel⟩, by decide⟩
noncomputable def f_X8_split_84 (q : Nat) : Nat → Int32 → Int32 → Int32 → Int32 → Int32 → AH → Option (Int32 × AH)
  | 0, _, _, _, _, _, _ => none
  | n + 1, x1, x2, x3, x4, x5, h => if (7 : Int32) ≤ x5 then (bd (f_X8_of q x1 0 h) (fun v_3 h_2 => lt ((58 + (7 * x4))) (fun v_4 => ck v_4 100 (lt (hset h_2 (q + 4) (v_4 : Int32).toNatClampNeg v_3) (fun h_5 => bd (f_X8_of q x1 1 h_5) (fun v_8 h_7 => lt (((58 + (7 * x4)) + 1)) (fun v_9 => ck v_9 100 (lt (hset h_7 (q + 4) (v_9 : Int32).toNatClampNeg v_8) (fun h_10 => lt ((((58 + (7 * x4)) + 2) + x2)) (fun v_12 => ck v_12 100 (lt (hset h_10 (q + 4) (v_12 : Int32).toNatClampNeg x3) (fun h_13 => lt ((((58 + (7 * x1)) + 2) + x2)) (fun v_15 => ck v_15 100 (lt (hset h_13 (q + 4) (v_15 : Int32).toNatClampNeg 0) (fun h_16 => ck 1 100 (ck 1 100 (lt (hset h_16 (q + 4) (1 : Int32).toNatClampNeg ((h_16 (q + 4) (1 : Int32).toNatClampNeg) + 1)) (fun h_18 => some (x4, h_18))))))))))))))))))) else (lt (((58 + (7 * x4)) + x5)) (fun v_20 => ck v_20 100 (lt (hset h (q + 4) (v_20 : Int32).toNatClampNeg 0) (fun h_21 => lt (x5 + 1) (fun v_22 => (f_X8_split_84 q n) x1 x2 x3 x4 v_22 h_21)))))
set_option maxRecDepth 20000 in
set_option maxHeartbeats 4000000 in
theorem t_X8_split_84 {z : MC} {g : GC} {A : Nat → Prop} (F : Fx z cX8_split 6 RX8 (some .int) 3 g A) {q : Nat} (hq : (gL g)[q]? = some (.inl 8)) : ∀ (n : Nat) (x1 : Int32) (x2 : Int32) (x3 : Int32) (x4 : Int32) (x5 : Int32) (h : AH), Snd z 6 g A (QF z g A mkI) 84 [(0, .ref (gad g q)), (1, .int x1), (2, .int x2), (3, .int x3), (4, .int x4), (5, .int x5)] [] h (f_X8_split_84 q n x1 x2 x3 x4 x5 h) := by
  intro n
  induction n with
  | zero => intros; exact s_none
  | succ n ih =>
    intro x1 x2 x3 x4 x5 h
    unfold f_X8_split_84
    refine s_iload F dX8_split_84 5 rfl ?_
    refine s_bipush F (v := 7) dX8_split_86 (by decide) ?_
    refine s_icmp_ge F 114 dX8_split_88 (by decide) (fun _ => ?_) (fun _ => ?_)
    · refine s_aload_n F dX8_split_114 rfl 0 rfl ?_
      have hw_1 := wf_ref F.2.2.2.2.2.2.1 hq 5 4 (.inr (0, 100)) rfl
      refine s_getr F ciX8 5 4 (.inr (0, 100)) hq (by decide) rfl rfl m898 dX8_split_115 ?_
      refine s_bipush F (v := 58) dX8_split_118 (by decide) ?_
      refine s_bipush F (v := 7) dX8_split_120 (by decide) ?_
      refine s_iload F dX8_split_122 4 rfl ?_
      refine s_imul F dX8_split_124 ?_
      refine s_iadd F dX8_split_125 ?_
      refine s_aload_n F dX8_split_126 rfl 0 rfl ?_
      refine s_iload_n F dX8_split_127 rfl 1 rfl ?_
      refine s_iconst F (v := 0) dX8_split_128 (by decide) ?_
      refine s_callVi (f := fun hh => f_X8_of q x1 0 hh) (As := [.int x1, .int 0]) F yv_X8_of (ct_X8_of z.2.1 g hq x1 0) (by decide) m1146 hq rfl rfl rfl (Nat.le_of_ble_eq_true rfl) dX8_split_129 (fun v_3 h_2 e_v_3 => ?_)
      refine s_leti2 (fun v_4 => ?_)
      refine s_iast F hw_1 dX8_split_132 ?_
      refine s_letH (fun h_5 => ?_)
      refine s_aload_n F dX8_split_133 rfl 0 rfl ?_
      have hw_6 := wf_ref F.2.2.2.2.2.2.1 hq 5 4 (.inr (0, 100)) rfl
      refine s_getr F ciX8 5 4 (.inr (0, 100)) hq (by decide) rfl rfl m898 dX8_split_134 ?_
      refine s_bipush F (v := 58) dX8_split_137 (by decide) ?_
      refine s_bipush F (v := 7) dX8_split_139 (by decide) ?_
      refine s_iload F dX8_split_141 4 rfl ?_
      refine s_imul F dX8_split_143 ?_
      refine s_iadd F dX8_split_144 ?_
      refine s_iconst F (v := 1) dX8_split_145 (by decide) ?_
      refine s_iadd F dX8_split_146 ?_
      refine s_aload_n F dX8_split_147 rfl 0 rfl ?_
      refine s_iload_n F dX8_split_148 rfl 1 rfl ?_
      refine s_iconst F (v := 1) dX8_split_149 (by decide) ?_
      refine s_callVi (f := fun hh => f_X8_of q x1 1 hh) (As := [.int x1, .int 1]) F yv_X8_of (ct_X8_of z.2.1 g hq x1 1) (by decide) m1146 hq rfl rfl rfl (Nat.le_of_ble_eq_true rfl) dX8_split_150 (fun v_8 h_7 e_v_8 => ?_)
      refine s_leti2 (fun v_9 => ?_)
      refine s_iast F hw_6 dX8_split_153 ?_
      refine s_letH (fun h_10 => ?_)
      refine s_aload_n F dX8_split_154 rfl 0 rfl ?_
      have hw_11 := wf_ref F.2.2.2.2.2.2.1 hq 5 4 (.inr (0, 100)) rfl
      refine s_getr F ciX8 5 4 (.inr (0, 100)) hq (by decide) rfl rfl m898 dX8_split_155 ?_
      refine s_bipush F (v := 58) dX8_split_158 (by decide) ?_
      refine s_bipush F (v := 7) dX8_split_160 (by decide) ?_
      refine s_iload F dX8_split_162 4 rfl ?_
      refine s_imul F dX8_split_164 ?_
      refine s_iadd F dX8_split_165 ?_
      refine s_iconst F (v := 2) dX8_split_166 (by decide) ?_
      refine s_iadd F dX8_split_167 ?_
      refine s_iload_n F dX8_split_168 rfl 2 rfl ?_
      refine s_iadd F dX8_split_169 ?_
      refine s_iload_n F dX8_split_170 rfl 3 rfl ?_
      refine s_leti2 (fun v_12 => ?_)
      refine s_iast F hw_11 dX8_split_171 ?_
      refine s_letH (fun h_13 => ?_)
      refine s_aload_n F dX8_split_172 rfl 0 rfl ?_
      have hw_14 := wf_ref F.2.2.2.2.2.2.1 hq 5 4 (.inr (0, 100)) rfl
      refine s_getr F ciX8 5 4 (.inr (0, 100)) hq (by decide) rfl rfl m898 dX8_split_173 ?_
      refine s_bipush F (v := 58) dX8_split_176 (by decide) ?_
      refine s_bipush F (v := 7) dX8_split_178 (by decide) ?_
      refine s_iload_n F dX8_split_180 rfl 1 rfl ?_
      refine s_imul F dX8_split_181 ?_
      refine s_iadd F dX8_split_182 ?_
      refine s_iconst F (v := 2) dX8_split_183 (by decide) ?_
      refine s_iadd F dX8_split_184 ?_
      refine s_iload_n F dX8_split_185 rfl 2 rfl ?_
      refine s_iadd F dX8_split_186 ?_
      refine s_iconst F (v := 0) dX8_split_187 (by decide) ?_
      refine s_leti2 (fun v_15 => ?_)
      refine s_iast F hw_14 dX8_split_188 ?_
      refine s_letH (fun h_16 => ?_)
      refine s_aload_n F dX8_split_189 rfl 0 rfl ?_
      have hw_17 := wf_ref F.2.2.2.2.2.2.1 hq 5 4 (.inr (0, 100)) rfl
      refine s_getr F ciX8 5 4 (.inr (0, 100)) hq (by decide) rfl rfl m898 dX8_split_190 ?_
      refine s_iconst F (v := 1) dX8_split_193 (by decide) ?_
      refine s_dup2 F dX8_split_194 rfl rfl ?_
      refine s_iald F hw_17 dX8_split_195 ?_
      refine s_iconst F (v := 1) dX8_split_196 (by decide) ?_
      refine s_iadd F dX8_split_197 ?_
      refine s_iast F hw_17 dX8_split_198 ?_
      refine s_letH (fun h_18 => ?_)
      refine s_iload F dX8_split_199 4 rfl ?_
      exact s_iret F dX8_split_201
    · refine s_aload_n F dX8_split_91 rfl 0 rfl ?_
      have hw_19 := wf_ref F.2.2.2.2.2.2.1 hq 5 4 (.inr (0, 100)) rfl
      refine s_getr F ciX8 5 4 (.inr (0, 100)) hq (by decide) rfl rfl m898 dX8_split_92 ?_
      refine s_bipush F (v := 58) dX8_split_95 (by decide) ?_
      refine s_bipush F (v := 7) dX8_split_97 (by decide) ?_
      refine s_iload F dX8_split_99 4 rfl ?_
      refine s_imul F dX8_split_101 ?_
      refine s_iadd F dX8_split_102 ?_
      refine s_iload F dX8_split_103 5 rfl ?_
      refine s_iadd F dX8_split_105 ?_
      refine s_iconst F (v := 0) dX8_split_106 (by decide) ?_
      refine s_leti2 (fun v_20 => ?_)
      refine s_iast F hw_19 dX8_split_107 ?_
      refine s_letH (fun h_21 => ?_)
      refine s_iincv F dX8_split_108 5 rfl (by decide) (c := 1) (by decide) (fun v_22 => ?_)
      refine s_lv (lv' := [(5, .int v_22), (0, .ref (gad g q)), (1, .int x1), (2, .int x2), (3, .int x3), (4, .int x4)]) rfl ?_
      refine s_goto F 84 dX8_split_111 (by decide) ?_
      exact s_sub [1, 2, 3, 4, 5, 0] rfl (ih x1 x2 x3 x4 v_22 h_21)
noncomputable def f_X8_split (q : Nat) (x1 : Int32) (x2 : Int32) (h : AH) : Option (Int32 × AH) := lt (hset h q 0 0) (fun h_1 => bd (f_X8_isBoat q x1 h_1) (fun v_3 h_2 => if v_3 = 0 then (some ((-1000001), h_2)) else (bd (f_X8_isTrade x2 h_2) (fun v_5 h_4 => if v_5 = 0 then (some ((-1000001), h_4)) else (bd (f_X8_of q x1 (2 + x2) h_4) (fun v_7 h_6 => bd (f_X8_of q x1 6 h_6) (fun v_9 h_8 => if v_9 = 1 then (some ((-1000002), h_8)) else (if v_7 = 0 then (some ((-1000002), h_8)) else (bd (f_X8_allOf q x1 h_8) (fun v_11 h_10 => if v_7 = v_11 then (some ((-1000002), h_10)) else (ck 1 100 (lt (h_10 (q + 4) (1 : Int32).toNatClampNeg) (fun v_13 => if v_13 = 6 then (some ((-1000003), h_10)) else (bd (f_X8_keep q h_10) (fun _ h_14 => f_X8_split_84 q fu x1 x2 v_7 v_13 0 h_14)))))))))))))))
set_option maxRecDepth 20000 in
set_option maxHeartbeats 4000000 in
theorem ct_X8_split (l : Launch) (g : GC) {q : Nat} (hq : (gL g)[q]? = some (.inl 8)) (x1 : Int32) (x2 : Int32) : Ct l yX8_split cX8_split 6 (some .int) 3 [.ref (gad g q), .int x1, .int x2] g mkI (fun h => f_X8_split q x1 x2 h) := by
  refine Ct.of (by decide +kernel) (Nat.le_of_ble_eq_true rfl) (fun z A h _ F => ?_)
  show Snd z 6 g A (QF z g A mkI) 0 [(0, .ref (gad g q)), (1, .int x1), (2, .int x2)] [] h (f_X8_split q x1 x2 h)
  unfold f_X8_split
  refine s_aload_n F dX8_split_0 rfl 0 rfl ?_
  refine s_iconst F (v := 0) dX8_split_1 (by decide) ?_
  refine s_put F ciX8 (k := 0) hq (by decide) rfl rfl rfl rfl m893 dX8_split_2 ?_
  refine s_letH (fun h_1 => ?_)
  refine s_aload_n F dX8_split_5 rfl 0 rfl ?_
  refine s_iload_n F dX8_split_6 rfl 1 rfl ?_
  refine s_callVi (f := fun hh => f_X8_isBoat q x1 hh) (As := [.int x1]) F yv_X8_isBoat (ct_X8_isBoat z.2.1 g hq x1) (by decide) m1138 hq rfl rfl rfl (Nat.le_of_ble_eq_true rfl) dX8_split_7 (fun v_3 h_2 e_v_3 => ?_)
  refine s_if_eq F 20 dX8_split_10 (by decide) (fun _ => ?_) (fun _ => ?_)
  · refine s_ldc F (v := (-1000001)) dX8_split_20 m1009 ?_
    exact s_iret F dX8_split_22
  · refine s_iload_n F dX8_split_13 rfl 2 rfl ?_
    refine s_callSi (f := fun hh => f_X8_isTrade x2 hh) (As := [.int x2]) F ys_X8_isTrade (ct_X8_isTrade z.2.1 g x2) (by decide) m1182 rfl rfl (Nat.le_of_ble_eq_true rfl) dX8_split_14 (fun v_5 h_4 e_v_5 => ?_)
    refine s_if_ne F 23 dX8_split_17 (by decide) (fun _ => ?_) (fun _ => ?_)
    · refine s_aload_n F dX8_split_23 rfl 0 rfl ?_
      refine s_iload_n F dX8_split_24 rfl 1 rfl ?_
      refine s_iconst F (v := 2) dX8_split_25 (by decide) ?_
      refine s_iload_n F dX8_split_26 rfl 2 rfl ?_
      refine s_iadd F dX8_split_27 ?_
      refine s_callVi (f := fun hh => f_X8_of q x1 (2 + x2) hh) (As := [.int x1, .int (2 + x2)]) F yv_X8_of (ct_X8_of z.2.1 g hq x1 (2 + x2)) (by decide) m1146 hq rfl rfl rfl (Nat.le_of_ble_eq_true rfl) dX8_split_28 (fun v_7 h_6 e_v_7 => ?_)
      refine s_istore_n F (lv' := [(3, .int v_7), (0, .ref (gad g q)), (1, .int x1), (2, .int x2)]) dX8_split_31 rfl (by decide) rfl ?_
      refine s_aload_n F dX8_split_32 rfl 1 rfl ?_
      refine s_iload_n F dX8_split_33 rfl 2 rfl ?_
      refine s_bipush F (v := 6) dX8_split_34 (by decide) ?_
      refine s_callVi (f := fun hh => f_X8_of q x1 6 hh) (As := [.int x1, .int 6]) F yv_X8_of (ct_X8_of z.2.1 g hq x1 6) (by decide) m1146 hq rfl rfl rfl (Nat.le_of_ble_eq_true rfl) dX8_split_36 (fun v_9 h_8 e_v_9 => ?_)
      refine s_iconst F (v := 1) dX8_split_39 (by decide) ?_
      refine s_icmp_eq F 56 dX8_split_40 (by decide) (fun _ => ?_) (fun _ => ?_)
      · refine s_ldc F (v := (-1000002)) dX8_split_56 m1169 ?_
        exact s_iret F dX8_split_58
      · refine s_iload_n F dX8_split_43 rfl 0 rfl ?_
        refine s_if_eq F 56 dX8_split_44 (by decide) (fun _ => ?_) (fun _ => ?_)
        · refine s_ldc F (v := (-1000002)) dX8_split_56 m1169 ?_
          exact s_iret F dX8_split_58
        · refine s_iload_n F dX8_split_47 rfl 0 rfl ?_
          refine s_aload_n F dX8_split_48 rfl 1 rfl ?_
          refine s_iload_n F dX8_split_49 rfl 2 rfl ?_
          refine s_callVi (f := fun hh => f_X8_allOf q x1 hh) (As := [.int x1]) F yv_X8_allOf (ct_X8_allOf z.2.1 g hq x1) (by decide) m1170 hq rfl rfl rfl (Nat.le_of_ble_eq_true rfl) dX8_split_50 (fun v_11 h_10 e_v_11 => ?_)
          refine s_icmp_ne F 59 dX8_split_53 (by decide) (fun _ => ?_) (fun _ => ?_)
          · refine s_aload_n F dX8_split_59 rfl 1 rfl ?_
            have hw_12 := wf_ref F.2.2.2.2.2.2.1 hq 5 4 (.inr (0, 100)) rfl
            refine s_getr F ciX8 5 4 (.inr (0, 100)) hq (by decide) rfl rfl m898 dX8_split_60 ?_
            refine s_iconst F (v := 1) dX8_split_63 (by decide) ?_
            refine s_iald F hw_12 dX8_split_64 ?_
            refine s_leti (fun v_13 => ?_)
            refine s_istore F (lv' := [(4, .int v_13), (3, .int v_7), (0, .ref (gad g q)), (1, .int x1), (2, .int x2)]) dX8_split_65 (by decide) rfl ?_
            refine s_iload F dX8_split_67 0 rfl ?_
            refine s_bipush F (v := 6) dX8_split_69 (by decide) ?_
            refine s_icmp_ne F 77 dX8_split_71 (by decide) (fun _ => ?_) (fun _ => ?_)
            · refine s_aload_n F dX8_split_77 rfl 2 rfl ?_
              refine s_callVu (f := fun hh => f_X8_keep q hh) (As := []) F yv_X8_keep (ct_X8_keep z.2.1 g hq) (by decide) m1126 hq rfl rfl rfl (Nat.le_of_ble_eq_true rfl) dX8_split_78 (fun _ h_14 e_v_15 => ?_)
              refine s_iconst F (v := 0) dX8_split_81 (by decide) ?_
              refine s_istore F (lv' := [(5, .int 0), (4, .int v_13), (3, .int v_7), (0, .ref (gad g q)), (1, .int x1), (2, .int x2)]) dX8_split_82 (by decide) rfl ?_
              exact s_sub [3, 4, 5, 2, 1, 0] rfl (t_X8_split_84 F hq fu x1 x2 v_7 v_13 0 h_14)
            · refine s_ldc F (v := (-1000003)) dX8_split_74 m1032 ?_
              exact s_iret F dX8_split_76
          · refine s_ldc F (v := (-1000002)) dX8_split_56 m1169 ?_
            exact s_iret F dX8_split_58
    · refine s_ldc F (v := (-1000001)) dX8_split_20 m1009 ?_
      exact s_iret F dX8_split_22
theorem dX8_hour_0 : decode cX8_hour 0 = .ok (.aload_n 0, 1) := by decide +kernel
theorem dX8_hour_1 : decode cX8_hour 1 = .ok (.iconst 0, 1) := by decide +kernel
theorem dX8_hour_2 : decode cX8_hour 2 = .ok (.putfield 65, 3) := by decide +kernel
theorem dX8_hour_5 : decode cX8_hour 5 = .ok (.aload_n 0, 1) := by decide +kernel
theorem dX8_hour_6 : decode cX8_hour 6 = .ok (.getfield 195, 3) := by decide +kernel
theorem dX8_hour_9 : decode cX8_hour 9 = .ok (.ifCond .ne 6, 3) := by decide +kernel
theorem dX8_hour_12 : decode cX8_hour 12 = .ok (.ldc 244, 2) := by decide +kernel
theorem dX8_hour_14 : decode cX8_hour 14 = .ok (.ireturn, 1) := by decide +kernel
theorem dX8_hour_15 : decode cX8_hour 15 = .ok (.aload_n 0, 1) := by decide +kernel
theorem dX8_hour_16 : decode cX8_hour 16 = .ok (.getfield 19, 3) := by decide +kernel
theorem dX8_hour_19 : decode cX8_hour 19 = .ok (.iconst 2, 1) := by decide +kernel
theorem dX8_hour_20 : decode cX8_hour 20 = .ok (.iaload, 1) := by decide +kernel
theorem dX8_hour_21 : decode cX8_hour 21 = .ok (.bipush 11, 2) := by decide +kernel
theorem dX8_hour_23 : decode cX8_hour 23 = .ok (.if_icmp .ne 6, 3) := by decide +kernel
theorem dX8_hour_26 : decode cX8_hour 26 = .ok (.ldc 95, 2) := by decide +kernel
theorem dX8_hour_28 : decode cX8_hour 28 = .ok (.ireturn, 1) := by decide +kernel
theorem dX8_hour_29 : decode cX8_hour 29 = .ok (.aload_n 0, 1) := by decide +kernel
theorem dX8_hour_30 : decode cX8_hour 30 = .ok (.invokevirtual 226, 3) := by decide +kernel
theorem dX8_hour_33 : decode cX8_hour 33 = .ok (.aload_n 0, 1) := by decide +kernel
theorem dX8_hour_34 : decode cX8_hour 34 = .ok (.getfield 19, 3) := by decide +kernel
theorem dX8_hour_37 : decode cX8_hour 37 = .ok (.iconst 2, 1) := by decide +kernel
theorem dX8_hour_38 : decode cX8_hour 38 = .ok (.dup2, 1) := by decide +kernel
theorem dX8_hour_39 : decode cX8_hour 39 = .ok (.iaload, 1) := by decide +kernel
theorem dX8_hour_40 : decode cX8_hour 40 = .ok (.iconst 1, 1) := by decide +kernel
theorem dX8_hour_41 : decode cX8_hour 41 = .ok (.iadd, 1) := by decide +kernel
theorem dX8_hour_42 : decode cX8_hour 42 = .ok (.iastore, 1) := by decide +kernel
theorem dX8_hour_43 : decode cX8_hour 43 = .ok (.iconst 0, 1) := by decide +kernel
theorem dX8_hour_44 : decode cX8_hour 44 = .ok (.istore_n 1, 1) := by decide +kernel
theorem dX8_hour_45 : decode cX8_hour 45 = .ok (.iload_n 1, 1) := by decide +kernel
theorem dX8_hour_46 : decode cX8_hour 46 = .ok (.aload_n 0, 1) := by decide +kernel
theorem dX8_hour_47 : decode cX8_hour 47 = .ok (.getfield 19, 3) := by decide +kernel
theorem dX8_hour_50 : decode cX8_hour 50 = .ok (.iconst 0, 1) := by decide +kernel
theorem dX8_hour_51 : decode cX8_hour 51 = .ok (.iaload, 1) := by decide +kernel
theorem dX8_hour_52 : decode cX8_hour 52 = .ok (.if_icmp .ge 41, 3) := by decide +kernel
theorem dX8_hour_55 : decode cX8_hour 55 = .ok (.aload_n 0, 1) := by decide +kernel
theorem dX8_hour_56 : decode cX8_hour 56 = .ok (.getfield 19, 3) := by decide +kernel
theorem dX8_hour_59 : decode cX8_hour 59 = .ok (.bipush 16, 2) := by decide +kernel
theorem dX8_hour_61 : decode cX8_hour 61 = .ok (.bipush 7, 2) := by decide +kernel
theorem dX8_hour_63 : decode cX8_hour 63 = .ok (.iload_n 1, 1) := by decide +kernel
theorem dX8_hour_64 : decode cX8_hour 64 = .ok (.imul, 1) := by decide +kernel
theorem dX8_hour_65 : decode cX8_hour 65 = .ok (.iadd, 1) := by decide +kernel
theorem dX8_hour_66 : decode cX8_hour 66 = .ok (.iconst 5, 1) := by decide +kernel
theorem dX8_hour_67 : decode cX8_hour 67 = .ok (.iadd, 1) := by decide +kernel
theorem dX8_hour_68 : decode cX8_hour 68 = .ok (.iconst 0, 1) := by decide +kernel
theorem dX8_hour_69 : decode cX8_hour 69 = .ok (.iastore, 1) := by decide +kernel
theorem dX8_hour_70 : decode cX8_hour 70 = .ok (.aload_n 0, 1) := by decide +kernel
theorem dX8_hour_71 : decode cX8_hour 71 = .ok (.getfield 19, 3) := by decide +kernel
theorem dX8_hour_74 : decode cX8_hour 74 = .ok (.bipush 16, 2) := by decide +kernel
theorem dX8_hour_76 : decode cX8_hour 76 = .ok (.bipush 7, 2) := by decide +kernel
theorem dX8_hour_78 : decode cX8_hour 78 = .ok (.iload_n 1, 1) := by decide +kernel
theorem dX8_hour_79 : decode cX8_hour 79 = .ok (.imul, 1) := by decide +kernel
theorem dX8_hour_80 : decode cX8_hour 80 = .ok (.iadd, 1) := by decide +kernel
theorem dX8_hour_81 : decode cX8_hour 81 = .ok (.iconst 5, 1) := by decide +kernel
theorem dX8_hour_82 : decode cX8_hour 82 = .ok (.iadd, 1) := by decide +kernel
theorem dX8_hour_83 : decode cX8_hour 83 = .ok (.iconst 1, 1) := by decide +kernel
theorem dX8_hour_84 : decode cX8_hour 84 = .ok (.iadd, 1) := by decide +kernel
theorem dX8_hour_85 : decode cX8_hour 85 = .ok (.iconst 0, 1) := by decide +kernel
theorem dX8_hour_86 : decode cX8_hour 86 = .ok (.iastore, 1) := by decide +kernel
theorem dX8_hour_87 : decode cX8_hour 87 = .ok (.iinc 1 1, 3) := by decide +kernel
theorem dX8_hour_90 : decode cX8_hour 90 = .ok (.goto (-45), 3) := by decide +kernel
theorem dX8_hour_93 : decode cX8_hour 93 = .ok (.aload_n 0, 1) := by decide +kernel
theorem dX8_hour_94 : decode cX8_hour 94 = .ok (.getfield 19, 3) := by decide +kernel
theorem dX8_hour_97 : decode cX8_hour 97 = .ok (.iconst 2, 1) := by decide +kernel
theorem dX8_hour_98 : decode cX8_hour 98 = .ok (.iaload, 1) := by decide +kernel
theorem dX8_hour_99 : decode cX8_hour 99 = .ok (.ireturn, 1) := by decide +kernel
theorem yv_X8_hour : YV yX8_hour cX8_hour 2 (some .int) 0 := ⟨m1187, m1188, m9, m1189, ⟨by decide +kernel, by decide +kernel, by decide +kernel⟩, by decide⟩
noncomputable def f_X8_hour_45 (q : Nat) : Nat → Int32 → AH → Option (Int32 × AH)
  | 0, _, _ => none
  | n + 1, x1, h => ck 0 100 (if (h (q + 4) (0 : Int32).toNatClampNeg) ≤ x1 then (ck 2 100 (some (h (q + 4) (2 : Int32).toNatClampNeg, h))) else (lt (((16 + (7 * x1)) + 5)) (fun v_4 => ck v_4 100 (lt (hset h (q + 4) (v_4 : Int32).toNatClampNeg 0) (fun h_5 => lt ((((16 + (7 * x1)) + 5) + 1)) (fun v_7 => ck v_7 100 (lt (hset h_5 (q + 4) (v_7 : Int32).toNatClampNeg 0) (fun h_8 => lt (x1 + 1) (fun v_9 => (f_X8_hour_45 q n) v_9 h_8)))))))))
set_option maxRecDepth 20000 in
set_option maxHeartbeats 4000000 in
theorem t_X8_hour_45 {z : MC} {g : GC} {A : Nat → Prop} (F : Fx z cX8_hour 2 RX8 (some .int) 2 g A) {q : Nat} (hq : (gL g)[q]? = some (.inl 8)) : ∀ (n : Nat) (x1 : Int32) (h : AH), Snd z 2 g A (QF z g A mkI) 45 [(0, .ref (gad g q)), (1, .int x1)] [] h (f_X8_hour_45 q n x1 h) := by
  intro n
  induction n with
  | zero => intros; exact s_none
  | succ n ih =>
    intro x1 h
    unfold f_X8_hour_45
    refine s_iload_n F dX8_hour_45 rfl 1 rfl ?_
    refine s_aload_n F dX8_hour_46 rfl 0 rfl ?_
    have hw_1 := wf_ref F.2.2.2.2.2.2.1 hq 5 4 (.inr (0, 100)) rfl
    refine s_getr F ciX8 5 4 (.inr (0, 100)) hq (by decide) rfl rfl m898 dX8_hour_47 ?_
    refine s_iconst F (v := 0) dX8_hour_50 (by decide) ?_
    refine s_iald F hw_1 dX8_hour_51 ?_
    refine s_icmp_ge F 93 dX8_hour_52 (by decide) (fun _ => ?_) (fun _ => ?_)
    · refine s_aload_n F dX8_hour_93 rfl 0 rfl ?_
      have hw_2 := wf_ref F.2.2.2.2.2.2.1 hq 5 4 (.inr (0, 100)) rfl
      refine s_getr F ciX8 5 4 (.inr (0, 100)) hq (by decide) rfl rfl m898 dX8_hour_94 ?_
      refine s_iconst F (v := 2) dX8_hour_97 (by decide) ?_
      refine s_iald F hw_2 dX8_hour_98 ?_
      exact s_iret F dX8_hour_99
    · refine s_aload_n F dX8_hour_55 rfl 0 rfl ?_
      have hw_3 := wf_ref F.2.2.2.2.2.2.1 hq 5 4 (.inr (0, 100)) rfl
      refine s_getr F ciX8 5 4 (.inr (0, 100)) hq (by decide) rfl rfl m898 dX8_hour_56 ?_
      refine s_bipush F (v := 16) dX8_hour_59 (by decide) ?_
      refine s_bipush F (v := 7) dX8_hour_61 (by decide) ?_
      refine s_iload_n F dX8_hour_63 rfl 1 rfl ?_
      refine s_imul F dX8_hour_64 ?_
      refine s_iadd F dX8_hour_65 ?_
      refine s_iconst F (v := 5) dX8_hour_66 (by decide) ?_
      refine s_iadd F dX8_hour_67 ?_
      refine s_iconst F (v := 0) dX8_hour_68 (by decide) ?_
      refine s_leti2 (fun v_4 => ?_)
      refine s_iast F hw_3 dX8_hour_69 ?_
      refine s_letH (fun h_5 => ?_)
      refine s_aload_n F dX8_hour_70 rfl 0 rfl ?_
      have hw_6 := wf_ref F.2.2.2.2.2.2.1 hq 5 4 (.inr (0, 100)) rfl
      refine s_getr F ciX8 5 4 (.inr (0, 100)) hq (by decide) rfl rfl m898 dX8_hour_71 ?_
      refine s_bipush F (v := 16) dX8_hour_74 (by decide) ?_
      refine s_bipush F (v := 7) dX8_hour_76 (by decide) ?_
      refine s_iload_n F dX8_hour_78 rfl 1 rfl ?_
      refine s_imul F dX8_hour_79 ?_
      refine s_iadd F dX8_hour_80 ?_
      refine s_iconst F (v := 5) dX8_hour_81 (by decide) ?_
      refine s_iadd F dX8_hour_82 ?_
      refine s_iconst F (v := 1) dX8_hour_83 (by decide) ?_
      refine s_iadd F dX8_hour_84 ?_
      refine s_iconst F (v := 0) dX8_hour_85 (by decide) ?_
      refine s_leti2 (fun v_7 => ?_)
      refine s_iast F hw_6 dX8_hour_86 ?_
      refine s_letH (fun h_8 => ?_)
      refine s_iincv F dX8_hour_87 1 rfl (by decide) (c := 1) (by decide) (fun v_9 => ?_)
      refine s_lv (lv' := [(1, .int v_9), (0, .ref (gad g q))]) rfl ?_
      refine s_goto F 45 dX8_hour_90 (by decide) ?_
      exact s_sub [1, 0] rfl (ih v_9 h_8)
noncomputable def f_X8_hour (q : Nat) (h : AH) : Option (Int32 × AH) := lt (hset h q 0 0) (fun h_1 => if (h_1 q 7) = 0 then (some ((-1000002), h_1)) else (ck 2 100 (if (h_1 (q + 4) (2 : Int32).toNatClampNeg) = 11 then (some ((-1000003), h_1)) else (bd (f_X8_keep q h_1) (fun _ h_3 => ck 2 100 (ck 2 100 (lt (hset h_3 (q + 4) (2 : Int32).toNatClampNeg ((h_3 (q + 4) (2 : Int32).toNatClampNeg) + 1)) (fun h_6 => f_X8_hour_45 q fu 0 h_6))))))))
set_option maxRecDepth 20000 in
set_option maxHeartbeats 4000000 in
theorem ct_X8_hour (l : Launch) (g : GC) {q : Nat} (hq : (gL g)[q]? = some (.inl 8)) : Ct l yX8_hour cX8_hour 2 (some .int) 2 [.ref (gad g q)] g mkI (fun h => f_X8_hour q h) := by
  refine Ct.of (by decide +kernel) (Nat.le_of_ble_eq_true rfl) (fun z A h _ F => ?_)
  show Snd z 2 g A (QF z g A mkI) 0 [(0, .ref (gad g q))] [] h (f_X8_hour q h)
  unfold f_X8_hour
  refine s_aload_n F dX8_hour_0 rfl 0 rfl ?_
  refine s_iconst F (v := 0) dX8_hour_1 (by decide) ?_
  refine s_put F ciX8 (k := 0) hq (by decide) rfl rfl rfl rfl m893 dX8_hour_2 ?_
  refine s_letH (fun h_1 => ?_)
  refine s_aload_n F dX8_hour_5 rfl 0 rfl ?_
  refine s_geti F ciX8 7 hq (by decide) rfl rfl m900 dX8_hour_6 ?_
  refine s_if_ne F 15 dX8_hour_9 (by decide) (fun _ => ?_) (fun _ => ?_)
  · refine s_aload_n F dX8_hour_15 rfl 0 rfl ?_
    have hw_2 := wf_ref F.2.2.2.2.2.2.1 hq 5 4 (.inr (0, 100)) rfl
    refine s_getr F ciX8 5 4 (.inr (0, 100)) hq (by decide) rfl rfl m898 dX8_hour_16 ?_
    refine s_iconst F (v := 2) dX8_hour_19 (by decide) ?_
    refine s_iald F hw_2 dX8_hour_20 ?_
    refine s_bipush F (v := 11) dX8_hour_21 (by decide) ?_
    refine s_icmp_ne F 29 dX8_hour_23 (by decide) (fun _ => ?_) (fun _ => ?_)
    · refine s_aload_n F dX8_hour_29 rfl 0 rfl ?_
      refine s_callVu (f := fun hh => f_X8_keep q hh) (As := []) F yv_X8_keep (ct_X8_keep z.2.1 g hq) (by decide) m1126 hq rfl rfl rfl (Nat.le_of_ble_eq_true rfl) dX8_hour_30 (fun _ h_3 e_v_4 => ?_)
      refine s_aload_n F dX8_hour_33 rfl 0 rfl ?_
      have hw_5 := wf_ref F.2.2.2.2.2.2.1 hq 5 4 (.inr (0, 100)) rfl
      refine s_getr F ciX8 5 4 (.inr (0, 100)) hq (by decide) rfl rfl m898 dX8_hour_34 ?_
      refine s_iconst F (v := 2) dX8_hour_37 (by decide) ?_
      refine s_dup2 F dX8_hour_38 rfl rfl ?_
      refine s_iald F hw_5 dX8_hour_39 ?_
      refine s_iconst F (v := 1) dX8_hour_40 (by decide) ?_
      refine s_iadd F dX8_hour_41 ?_
      refine s_iast F hw_5 dX8_hour_42 ?_
      refine s_letH (fun h_6 => ?_)
      refine s_iconst F (v := 0) dX8_hour_43 (by decide) ?_
      refine s_istore_n F (lv' := [(1, .int 0), (0, .ref (gad g q))]) dX8_hour_44 rfl (by decide) rfl ?_
      exact s_sub [1, 0] rfl (t_X8_hour_45 F hq fu 0 h_6)
    · refine s_ldc F (v := (-1000003)) dX8_hour_26 m1032 ?_
      exact s_iret F dX8_hour_28
  · refine s_ldc F (v := (-1000002)) dX8_hour_12 m1169 ?_
    exact s_iret F dX8_hour_14
theorem dX8_undo_0 : decode cX8_undo 0 = .ok (.aload_n 0, 1) := by decide +kernel
theorem dX8_undo_1 : decode cX8_undo 1 = .ok (.iconst 0, 1) := by decide +kernel
theorem dX8_undo_2 : decode cX8_undo 2 = .ok (.putfield 65, 3) := by decide +kernel
theorem dX8_undo_5 : decode cX8_undo 5 = .ok (.aload_n 0, 1) := by decide +kernel
theorem dX8_undo_6 : decode cX8_undo 6 = .ok (.getfield 199, 3) := by decide +kernel
theorem dX8_undo_9 : decode cX8_undo 9 = .ok (.ifCond .ne 6, 3) := by decide +kernel
theorem dX8_undo_12 : decode cX8_undo 12 = .ok (.ldc 244, 2) := by decide +kernel
theorem dX8_undo_14 : decode cX8_undo 14 = .ok (.ireturn, 1) := by decide +kernel
theorem dX8_undo_15 : decode cX8_undo 15 = .ok (.aload_n 0, 1) := by decide +kernel
theorem dX8_undo_16 : decode cX8_undo 16 = .ok (.dup, 1) := by decide +kernel
theorem dX8_undo_17 : decode cX8_undo 17 = .ok (.getfield 199, 3) := by decide +kernel
theorem dX8_undo_20 : decode cX8_undo 20 = .ok (.iconst 1, 1) := by decide +kernel
theorem dX8_undo_21 : decode cX8_undo 21 = .ok (.isub, 1) := by decide +kernel
theorem dX8_undo_22 : decode cX8_undo 22 = .ok (.putfield 199, 3) := by decide +kernel
theorem dX8_undo_25 : decode cX8_undo 25 = .ok (.iconst 0, 1) := by decide +kernel
theorem dX8_undo_26 : decode cX8_undo 26 = .ok (.istore_n 1, 1) := by decide +kernel
theorem dX8_undo_27 : decode cX8_undo 27 = .ok (.iload_n 1, 1) := by decide +kernel
theorem dX8_undo_28 : decode cX8_undo 28 = .ok (.bipush 100, 2) := by decide +kernel
theorem dX8_undo_30 : decode cX8_undo 30 = .ok (.if_icmp .ge 29, 3) := by decide +kernel
theorem dX8_undo_33 : decode cX8_undo 33 = .ok (.aload_n 0, 1) := by decide +kernel
theorem dX8_undo_34 : decode cX8_undo 34 = .ok (.getfield 19, 3) := by decide +kernel
theorem dX8_undo_37 : decode cX8_undo 37 = .ok (.iload_n 1, 1) := by decide +kernel
theorem dX8_undo_38 : decode cX8_undo 38 = .ok (.aload_n 0, 1) := by decide +kernel
theorem dX8_undo_39 : decode cX8_undo 39 = .ok (.getfield 25, 3) := by decide +kernel
theorem dX8_undo_42 : decode cX8_undo 42 = .ok (.bipush 100, 2) := by decide +kernel
theorem dX8_undo_44 : decode cX8_undo 44 = .ok (.aload_n 0, 1) := by decide +kernel
theorem dX8_undo_45 : decode cX8_undo 45 = .ok (.getfield 199, 3) := by decide +kernel
theorem dX8_undo_48 : decode cX8_undo 48 = .ok (.imul, 1) := by decide +kernel
theorem dX8_undo_49 : decode cX8_undo 49 = .ok (.iload_n 1, 1) := by decide +kernel
theorem dX8_undo_50 : decode cX8_undo 50 = .ok (.iadd, 1) := by decide +kernel
theorem dX8_undo_51 : decode cX8_undo 51 = .ok (.iaload, 1) := by decide +kernel
theorem dX8_undo_52 : decode cX8_undo 52 = .ok (.iastore, 1) := by decide +kernel
theorem dX8_undo_53 : decode cX8_undo 53 = .ok (.iinc 1 1, 3) := by decide +kernel
theorem dX8_undo_56 : decode cX8_undo 56 = .ok (.goto (-29), 3) := by decide +kernel
theorem dX8_undo_59 : decode cX8_undo 59 = .ok (.aload_n 0, 1) := by decide +kernel
theorem dX8_undo_60 : decode cX8_undo 60 = .ok (.getfield 199, 3) := by decide +kernel
theorem dX8_undo_63 : decode cX8_undo 63 = .ok (.ireturn, 1) := by decide +kernel
theorem yv_X8_undo : YV yX8_undo cX8_undo 2 (some .int) 0 := ⟨m1191, m1192, m9, m1193, ⟨by decide +kernel, by decide +kernel, by decide +kernel⟩, by decide⟩
noncomputable def f_X8_undo_27 (q : Nat) : Nat → Int32 → AH → Option (Int32 × AH)
  | 0, _, _ => none
  | n + 1, x1, h => if (100 : Int32) ≤ x1 then (some (h q 9, h)) else (lt (((100 * (h q 9)) + x1)) (fun v_3 => ck v_3 2400 (ck x1 100 (lt (hset h (q + 4) (x1 : Int32).toNatClampNeg (h (q + 6) (v_3 : Int32).toNatClampNeg)) (fun h_4 => lt (x1 + 1) (fun v_5 => (f_X8_undo_27 q n) v_5 h_4))))))
set_option maxRecDepth 20000 in
set_option maxHeartbeats 4000000 in
theorem t_X8_undo_27 {z : MC} {g : GC} {A : Nat → Prop} (F : Fx z cX8_undo 2 RX8 (some .int) 1 g A) {q : Nat} (hq : (gL g)[q]? = some (.inl 8)) : ∀ (n : Nat) (x1 : Int32) (h : AH), Snd z 2 g A (QF z g A mkI) 27 [(0, .ref (gad g q)), (1, .int x1)] [] h (f_X8_undo_27 q n x1 h) := by
  intro n
  induction n with
  | zero => intros; exact s_none
  | succ n ih =>
    intro x1 h
    unfold f_X8_undo_27
    refine s_iload_n F dX8_undo_27 rfl 1 rfl ?_
    refine s_bipush F (v := 100) dX8_undo_28 (by decide) ?_
    refine s_icmp_ge F 59 dX8_undo_30 (by decide) (fun _ => ?_) (fun _ => ?_)
    · refine s_aload_n F dX8_undo_59 rfl 0 rfl ?_
      refine s_geti F ciX8 9 hq (by decide) rfl rfl m902 dX8_undo_60 ?_
      exact s_iret F dX8_undo_63
    · refine s_aload_n F dX8_undo_33 rfl 0 rfl ?_
      have hw_1 := wf_ref F.2.2.2.2.2.2.1 hq 5 4 (.inr (0, 100)) rfl
      refine s_getr F ciX8 5 4 (.inr (0, 100)) hq (by decide) rfl rfl m898 dX8_undo_34 ?_
      refine s_iload_n F dX8_undo_37 rfl 1 rfl ?_
      refine s_aload_n F dX8_undo_38 rfl 0 rfl ?_
      have hw_2 := wf_ref F.2.2.2.2.2.2.1 hq 8 6 (.inr (0, 2400)) rfl
      refine s_getr F ciX8 8 6 (.inr (0, 2400)) hq (by decide) rfl rfl m901 dX8_undo_39 ?_
      refine s_bipush F (v := 100) dX8_undo_42 (by decide) ?_
      refine s_aload_n F dX8_undo_44 rfl 0 rfl ?_
      refine s_geti F ciX8 9 hq (by decide) rfl rfl m902 dX8_undo_45 ?_
      refine s_imul F dX8_undo_48 ?_
      refine s_iload_n F dX8_undo_49 rfl 1 rfl ?_
      refine s_iadd F dX8_undo_50 ?_
      refine s_leti (fun v_3 => ?_)
      refine s_iald F hw_2 dX8_undo_51 ?_
      refine s_iast F hw_1 dX8_undo_52 ?_
      refine s_letH (fun h_4 => ?_)
      refine s_iincv F dX8_undo_53 1 rfl (by decide) (c := 1) (by decide) (fun v_5 => ?_)
      refine s_lv (lv' := [(1, .int v_5), (0, .ref (gad g q))]) rfl ?_
      refine s_goto F 27 dX8_undo_56 (by decide) ?_
      exact s_sub [1, 0] rfl (ih v_5 h_4)
noncomputable def f_X8_undo (q : Nat) (h : AH) : Option (Int32 × AH) := lt (hset h q 0 0) (fun h_1 => if (h_1 q 9) = 0 then (some ((-1000002), h_1)) else (lt (hset h_1 q 9 ((h_1 q 9) - 1)) (fun h_2 => f_X8_undo_27 q fu 0 h_2)))
set_option maxRecDepth 20000 in
set_option maxHeartbeats 4000000 in
theorem ct_X8_undo (l : Launch) (g : GC) {q : Nat} (hq : (gL g)[q]? = some (.inl 8)) : Ct l yX8_undo cX8_undo 2 (some .int) 1 [.ref (gad g q)] g mkI (fun h => f_X8_undo q h) := by
  refine Ct.of (by decide +kernel) (Nat.le_of_ble_eq_true rfl) (fun z A h _ F => ?_)
  show Snd z 2 g A (QF z g A mkI) 0 [(0, .ref (gad g q))] [] h (f_X8_undo q h)
  unfold f_X8_undo
  refine s_aload_n F dX8_undo_0 rfl 0 rfl ?_
  refine s_iconst F (v := 0) dX8_undo_1 (by decide) ?_
  refine s_put F ciX8 (k := 0) hq (by decide) rfl rfl rfl rfl m893 dX8_undo_2 ?_
  refine s_letH (fun h_1 => ?_)
  refine s_aload_n F dX8_undo_5 rfl 0 rfl ?_
  refine s_geti F ciX8 9 hq (by decide) rfl rfl m902 dX8_undo_6 ?_
  refine s_if_ne F 15 dX8_undo_9 (by decide) (fun _ => ?_) (fun _ => ?_)
  · refine s_aload_n F dX8_undo_15 rfl 0 rfl ?_
    refine s_dup F dX8_undo_16 rfl ?_
    refine s_geti F ciX8 9 hq (by decide) rfl rfl m902 dX8_undo_17 ?_
    refine s_iconst F (v := 1) dX8_undo_20 (by decide) ?_
    refine s_isub F dX8_undo_21 ?_
    refine s_put F ciX8 (k := 9) hq (by decide) rfl rfl rfl rfl m902 dX8_undo_22 ?_
    refine s_letH (fun h_2 => ?_)
    refine s_iconst F (v := 0) dX8_undo_25 (by decide) ?_
    refine s_istore_n F (lv' := [(1, .int 0), (0, .ref (gad g q))]) dX8_undo_26 rfl (by decide) rfl ?_
    exact s_sub [1, 0] rfl (t_X8_undo_27 F hq fu 0 h_2)
  · refine s_ldc F (v := (-1000002)) dX8_undo_12 m1169 ?_
    exact s_iret F dX8_undo_14
theorem dX8_arch_0 : decode cX8_arch 0 = .ok (.aload_n 0, 1) := by decide +kernel
theorem dX8_arch_1 : decode cX8_arch 1 = .ok (.iconst 0, 1) := by decide +kernel
theorem dX8_arch_2 : decode cX8_arch 2 = .ok (.putfield 65, 3) := by decide +kernel
theorem dX8_arch_5 : decode cX8_arch 5 = .ok (.aload_n 0, 1) := by decide +kernel
theorem dX8_arch_6 : decode cX8_arch 6 = .ok (.iload_n 1, 1) := by decide +kernel
theorem dX8_arch_7 : decode cX8_arch 7 = .ok (.invokevirtual 229, 3) := by decide +kernel
theorem dX8_arch_10 : decode cX8_arch 10 = .ok (.ifCond .eq 24, 3) := by decide +kernel
theorem dX8_arch_13 : decode cX8_arch 13 = .ok (.iload_n 2, 1) := by decide +kernel
theorem dX8_arch_14 : decode cX8_arch 14 = .ok (.i2l, 1) := by decide +kernel
theorem dX8_arch_15 : decode cX8_arch 15 = .ok (.lconst 0, 1) := by decide +kernel
theorem dX8_arch_16 : decode cX8_arch 16 = .ok (.ldc2_w 254, 3) := by decide +kernel
theorem dX8_arch_19 : decode cX8_arch 19 = .ok (.invokestatic 75, 3) := by decide +kernel
theorem dX8_arch_22 : decode cX8_arch 22 = .ok (.ifCond .eq 12, 3) := by decide +kernel
theorem dX8_arch_25 : decode cX8_arch 25 = .ok (.aload_n 0, 1) := by decide +kernel
theorem dX8_arch_26 : decode cX8_arch 26 = .ok (.iload_n 1, 1) := by decide +kernel
theorem dX8_arch_27 : decode cX8_arch 27 = .ok (.iload_n 2, 1) := by decide +kernel
theorem dX8_arch_28 : decode cX8_arch 28 = .ok (.invokevirtual 212, 3) := by decide +kernel
theorem dX8_arch_31 : decode cX8_arch 31 = .ok (.goto 5, 3) := by decide +kernel
theorem dX8_arch_34 : decode cX8_arch 34 = .ok (.ldc 85, 2) := by decide +kernel
theorem dX8_arch_36 : decode cX8_arch 36 = .ok (.ireturn, 1) := by decide +kernel
theorem yv_X8_arch : YV yX8_arch cX8_arch 3 (some .int) 2 := ⟨m1195, m1196, m9, m1197, ⟨by decide +kernel, by decide +kernel, by decide +kernel⟩, by decide⟩
noncomputable def f_X8_arch (q : Nat) (x1 : Int32) (x2 : Int32) (h : AH) : Option (Int32 × AH) := lt (hset h q 0 0) (fun h_1 => bd (f_X8_isArch q x1 h_1) (fun v_3 h_2 => if v_3 = 0 then (some ((-1000001), h_2)) else (bd (f_X8_in ((x2 : Int32).toInt64) 0 6 h_2) (fun v_5 h_4 => if v_5 = 0 then (some ((-1000001), h_4)) else (bd (f_X8_archOf q x1 x2 h_4) (fun v_7 h_6 => some (v_7, h_6)))))))
set_option maxRecDepth 20000 in
set_option maxHeartbeats 4000000 in
theorem ct_X8_arch (l : Launch) (g : GC) {q : Nat} (hq : (gL g)[q]? = some (.inl 8)) (x1 : Int32) (x2 : Int32) : Ct l yX8_arch cX8_arch 3 (some .int) 3 [.ref (gad g q), .int x1, .int x2] g mkI (fun h => f_X8_arch q x1 x2 h) := by
  refine Ct.of (by decide +kernel) (Nat.le_of_ble_eq_true rfl) (fun z A h _ F => ?_)
  show Snd z 3 g A (QF z g A mkI) 0 [(0, .ref (gad g q)), (1, .int x1), (2, .int x2)] [] h (f_X8_arch q x1 x2 h)
  unfold f_X8_arch
  refine s_aload_n F dX8_arch_0 rfl 0 rfl ?_
  refine s_iconst F (v := 0) dX8_arch_1 (by decide) ?_
  refine s_put F ciX8 (k := 0) hq (by decide) rfl rfl rfl rfl m893 dX8_arch_2 ?_
  refine s_letH (fun h_1 => ?_)
  refine s_aload_n F dX8_arch_5 rfl 0 rfl ?_
  refine s_iload_n F dX8_arch_6 rfl 1 rfl ?_
  refine s_callVi (f := fun hh => f_X8_isArch q x1 hh) (As := [.int x1]) F yv_X8_isArch (ct_X8_isArch z.2.1 g hq x1) (by decide) m1117 hq rfl rfl rfl (Nat.le_of_ble_eq_true rfl) dX8_arch_7 (fun v_3 h_2 e_v_3 => ?_)
  refine s_if_eq F 34 dX8_arch_10 (by decide) (fun _ => ?_) (fun _ => ?_)
  · refine s_ldc F (v := (-1000001)) dX8_arch_34 m1009 ?_
    exact s_iret F dX8_arch_36
  · refine s_iload_n F dX8_arch_13 rfl 2 rfl ?_
    refine s_i2l F dX8_arch_14 ?_
    refine s_lconst F (v := 0) dX8_arch_15 (by decide) ?_
    refine s_ldc2 F (v := 6) dX8_arch_16 m1198 ?_
    refine s_callSi (f := fun hh => f_X8_in ((x2 : Int32).toInt64) 0 6 hh) (As := [.long ((x2 : Int32).toInt64), .long 0, .long 6]) F ys_X8_in (ct_X8_in z.2.1 g ((x2 : Int32).toInt64) 0 6) (by decide) m1005 rfl rfl (Nat.le_of_ble_eq_true rfl) dX8_arch_19 (fun v_5 h_4 e_v_5 => ?_)
    refine s_if_eq F 34 dX8_arch_22 (by decide) (fun _ => ?_) (fun _ => ?_)
    · refine s_ldc F (v := (-1000001)) dX8_arch_34 m1009 ?_
      exact s_iret F dX8_arch_36
    · refine s_aload_n F dX8_arch_25 rfl 0 rfl ?_
      refine s_iload_n F dX8_arch_26 rfl 1 rfl ?_
      refine s_iload_n F dX8_arch_27 rfl 2 rfl ?_
      refine s_callVi (f := fun hh => f_X8_archOf q x1 x2 hh) (As := [.int x1, .int x2]) F yv_X8_archOf (ct_X8_archOf z.2.1 g hq x1 x2) (by decide) m1154 hq rfl rfl rfl (Nat.le_of_ble_eq_true rfl) dX8_arch_28 (fun v_7 h_6 e_v_7 => ?_)
      refine s_goto F 36 dX8_arch_31 (by decide) ?_
      exact s_iret F dX8_arch_36
theorem dX8_portersOf_0 : decode cX8_portersOf 0 = .ok (.iconst 0, 1) := by decide +kernel
theorem dX8_portersOf_1 : decode cX8_portersOf 1 = .ok (.istore_n 2, 1) := by decide +kernel
theorem dX8_portersOf_2 : decode cX8_portersOf 2 = .ok (.iconst 0, 1) := by decide +kernel
theorem dX8_portersOf_3 : decode cX8_portersOf 3 = .ok (.istore_n 3, 1) := by decide +kernel
theorem dX8_portersOf_4 : decode cX8_portersOf 4 = .ok (.iload_n 3, 1) := by decide +kernel
theorem dX8_portersOf_5 : decode cX8_portersOf 5 = .ok (.iconst 4, 1) := by decide +kernel
theorem dX8_portersOf_6 : decode cX8_portersOf 6 = .ok (.if_icmp .ge 34, 3) := by decide +kernel
theorem dX8_portersOf_9 : decode cX8_portersOf 9 = .ok (.aload_n 0, 1) := by decide +kernel
theorem dX8_portersOf_10 : decode cX8_portersOf 10 = .ok (.iload_n 1, 1) := by decide +kernel
theorem dX8_portersOf_11 : decode cX8_portersOf 11 = .ok (.iconst 2, 1) := by decide +kernel
theorem dX8_portersOf_12 : decode cX8_portersOf 12 = .ok (.iload_n 3, 1) := by decide +kernel
theorem dX8_portersOf_13 : decode cX8_portersOf 13 = .ok (.iadd, 1) := by decide +kernel
theorem dX8_portersOf_14 : decode cX8_portersOf 14 = .ok (.invokevirtual 206, 3) := by decide +kernel
theorem dX8_portersOf_17 : decode cX8_portersOf 17 = .ok (.iload_n 2, 1) := by decide +kernel
theorem dX8_portersOf_18 : decode cX8_portersOf 18 = .ok (.if_icmp .le 14, 3) := by decide +kernel
theorem dX8_portersOf_21 : decode cX8_portersOf 21 = .ok (.aload_n 0, 1) := by decide +kernel
theorem dX8_portersOf_22 : decode cX8_portersOf 22 = .ok (.iload_n 1, 1) := by decide +kernel
theorem dX8_portersOf_23 : decode cX8_portersOf 23 = .ok (.iconst 2, 1) := by decide +kernel
theorem dX8_portersOf_24 : decode cX8_portersOf 24 = .ok (.iload_n 3, 1) := by decide +kernel
theorem dX8_portersOf_25 : decode cX8_portersOf 25 = .ok (.iadd, 1) := by decide +kernel
theorem dX8_portersOf_26 : decode cX8_portersOf 26 = .ok (.invokevirtual 206, 3) := by decide +kernel
theorem dX8_portersOf_29 : decode cX8_portersOf 29 = .ok (.goto 4, 3) := by decide +kernel
theorem dX8_portersOf_32 : decode cX8_portersOf 32 = .ok (.iload_n 2, 1) := by decide +kernel
theorem dX8_portersOf_33 : decode cX8_portersOf 33 = .ok (.istore_n 2, 1) := by decide +kernel
theorem dX8_portersOf_34 : decode cX8_portersOf 34 = .ok (.iinc 3 1, 3) := by decide +kernel
theorem dX8_portersOf_37 : decode cX8_portersOf 37 = .ok (.goto (-33), 3) := by decide +kernel
theorem dX8_portersOf_40 : decode cX8_portersOf 40 = .ok (.aload_n 0, 1) := by decide +kernel
theorem dX8_portersOf_41 : decode cX8_portersOf 41 = .ok (.iload_n 1, 1) := by decide +kernel
theorem dX8_portersOf_42 : decode cX8_portersOf 42 = .ok (.invokevirtual 245, 3) := by decide +kernel
theorem dX8_portersOf_45 : decode cX8_portersOf 45 = .ok (.iload_n 2, 1) := by decide +kernel
theorem dX8_portersOf_46 : decode cX8_portersOf 46 = .ok (.isub, 1) := by decide +kernel
theorem dX8_portersOf_47 : decode cX8_portersOf 47 = .ok (.ireturn, 1) := by decide +kernel
theorem yv_X8_portersOf : YV yX8_portersOf cX8_portersOf 4 (some .int) 1 := ⟨m1205, ms55, m9, m1206, ⟨by decide +kernel, by decide +kernel, by decide +kernel⟩, by decide⟩
noncomputable def f_X8_portersOf_4 (q : Nat) : Nat → Int32 → Int32 → Int32 → AH → Option (Int32 × AH)
  | 0, _, _, _, _ => none
  | n + 1, x1, x2, x3, h => if (4 : Int32) ≤ x3 then (bd (f_X8_allOf q x1 h) (fun v_2 h_1 => some ((v_2 - x2), h_1))) else (bd (f_X8_of q x1 (2 + x3) h) (fun v_4 h_3 => if v_4 ≤ x2 then (lt (x3 + 1) (fun v_5 => (f_X8_portersOf_4 q n) x1 x2 v_5 h_3)) else (bd (f_X8_of q x1 (2 + x3) h_3) (fun v_7 h_6 => lt (x3 + 1) (fun v_8 => (f_X8_portersOf_4 q n) x1 v_7 v_8 h_6)))))
set_option maxRecDepth 20000 in
set_option maxHeartbeats 4000000 in
theorem t_X8_portersOf_4 {z : MC} {g : GC} {A : Nat → Prop} (F : Fx z cX8_portersOf 4 RX8 (some .int) 3 g A) {q : Nat} (hq : (gL g)[q]? = some (.inl 8)) : ∀ (n : Nat) (x1 : Int32) (x2 : Int32) (x3 : Int32) (h : AH), Snd z 4 g A (QF z g A mkI) 4 [(0, .ref (gad g q)), (1, .int x1), (2, .int x2), (3, .int x3)] [] h (f_X8_portersOf_4 q n x1 x2 x3 h) := by
  intro n
  induction n with
  | zero => intros; exact s_none
  | succ n ih =>
    intro x1 x2 x3 h
    unfold f_X8_portersOf_4
    refine s_iload_n F dX8_portersOf_4 rfl 3 rfl ?_
    refine s_iconst F (v := 4) dX8_portersOf_5 (by decide) ?_
    refine s_icmp_ge F 40 dX8_portersOf_6 (by decide) (fun _ => ?_) (fun _ => ?_)
    · refine s_aload_n F dX8_portersOf_40 rfl 0 rfl ?_
      refine s_iload_n F dX8_portersOf_41 rfl 1 rfl ?_
      refine s_callVi (f := fun hh => f_X8_allOf q x1 hh) (As := [.int x1]) F yv_X8_allOf (ct_X8_allOf z.2.1 g hq x1) (by decide) m1170 hq rfl rfl rfl (Nat.le_of_ble_eq_true rfl) dX8_portersOf_42 (fun v_2 h_1 e_v_2 => ?_)
      refine s_iload_n F dX8_portersOf_45 rfl 2 rfl ?_
      refine s_isub F dX8_portersOf_46 ?_
      exact s_iret F dX8_portersOf_47
    · refine s_aload_n F dX8_portersOf_9 rfl 0 rfl ?_
      refine s_iload_n F dX8_portersOf_10 rfl 1 rfl ?_
      refine s_iconst F (v := 2) dX8_portersOf_11 (by decide) ?_
      refine s_iload_n F dX8_portersOf_12 rfl 3 rfl ?_
      refine s_iadd F dX8_portersOf_13 ?_
      refine s_callVi (f := fun hh => f_X8_of q x1 (2 + x3) hh) (As := [.int x1, .int (2 + x3)]) F yv_X8_of (ct_X8_of z.2.1 g hq x1 (2 + x3)) (by decide) m1146 hq rfl rfl rfl (Nat.le_of_ble_eq_true rfl) dX8_portersOf_14 (fun v_4 h_3 e_v_4 => ?_)
      refine s_iload_n F dX8_portersOf_17 rfl 2 rfl ?_
      refine s_icmp_le F 32 dX8_portersOf_18 (by decide) (fun _ => ?_) (fun _ => ?_)
      · refine s_iload_n F dX8_portersOf_32 rfl 2 rfl ?_
        refine s_istore_n F (lv' := [(2, .int x2), (0, .ref (gad g q)), (1, .int x1), (3, .int x3)]) dX8_portersOf_33 rfl (by decide) rfl ?_
        refine s_iincv F dX8_portersOf_34 3 rfl (by decide) (c := 1) (by decide) (fun v_5 => ?_)
        refine s_lv (lv' := [(3, .int v_5), (2, .int x2), (0, .ref (gad g q)), (1, .int x1)]) rfl ?_
        refine s_goto F 4 dX8_portersOf_37 (by decide) ?_
        exact s_sub [2, 3, 1, 0] rfl (ih x1 x2 v_5 h_3)
      · refine s_aload_n F dX8_portersOf_21 rfl 0 rfl ?_
        refine s_iload_n F dX8_portersOf_22 rfl 1 rfl ?_
        refine s_iconst F (v := 2) dX8_portersOf_23 (by decide) ?_
        refine s_iload_n F dX8_portersOf_24 rfl 3 rfl ?_
        refine s_iadd F dX8_portersOf_25 ?_
        refine s_callVi (f := fun hh => f_X8_of q x1 (2 + x3) hh) (As := [.int x1, .int (2 + x3)]) F yv_X8_of (ct_X8_of z.2.1 g hq x1 (2 + x3)) (by decide) m1146 hq rfl rfl rfl (Nat.le_of_ble_eq_true rfl) dX8_portersOf_26 (fun v_7 h_6 e_v_7 => ?_)
        refine s_goto F 33 dX8_portersOf_29 (by decide) ?_
        refine s_istore_n F (lv' := [(2, .int v_7), (0, .ref (gad g q)), (1, .int x1), (3, .int x3)]) dX8_portersOf_33 rfl (by decide) rfl ?_
        refine s_iincv F dX8_portersOf_34 3 rfl (by decide) (c := 1) (by decide) (fun v_8 => ?_)
        refine s_lv (lv' := [(3, .int v_8), (2, .int v_7), (0, .ref (gad g q)), (1, .int x1)]) rfl ?_
        refine s_goto F 4 dX8_portersOf_37 (by decide) ?_
        exact s_sub [2, 3, 1, 0] rfl (ih x1 v_7 v_8 h_6)
noncomputable def f_X8_portersOf (q : Nat) (x1 : Int32) (h : AH) : Option (Int32 × AH) := f_X8_portersOf_4 q fu x1 0 0 h
set_option maxRecDepth 20000 in
set_option maxHeartbeats 4000000 in
theorem ct_X8_portersOf (l : Launch) (g : GC) {q : Nat} (hq : (gL g)[q]? = some (.inl 8)) (x1 : Int32) : Ct l yX8_portersOf cX8_portersOf 4 (some .int) 3 [.ref (gad g q), .int x1] g mkI (fun h => f_X8_portersOf q x1 h) := by
  refine Ct.of (by decide +kernel) (Nat.le_of_ble_eq_true rfl) (fun z A h _ F => ?_)
  show Snd z 4 g A (QF z g A mkI) 0 [(0, .ref (gad g q)), (1, .int x1)] [] h (f_X8_portersOf q x1 h)
  unfold f_X8_portersOf
  refine s_iconst F (v := 0) dX8_portersOf_0 (by decide) ?_
  refine s_istore_n F (lv' := [(2, .int 0), (0, .ref (gad g q)), (1, .int x1)]) dX8_portersOf_1 rfl (by decide) rfl ?_
  refine s_iconst F (v := 0) dX8_portersOf_2 (by decide) ?_
  refine s_istore_n F (lv' := [(3, .int 0), (2, .int 0), (0, .ref (gad g q)), (1, .int x1)]) dX8_portersOf_3 rfl (by decide) rfl ?_
  exact s_sub [2, 3, 1, 0] rfl (t_X8_portersOf_4 F hq fu x1 0 0 h)
theorem dX8_boat_0 : decode cX8_boat 0 = .ok (.aload_n 0, 1) := by decide +kernel
theorem dX8_boat_1 : decode cX8_boat 1 = .ok (.iconst 0, 1) := by decide +kernel
theorem dX8_boat_2 : decode cX8_boat 2 = .ok (.putfield 65, 3) := by decide +kernel
theorem dX8_boat_5 : decode cX8_boat 5 = .ok (.aload_n 0, 1) := by decide +kernel
theorem dX8_boat_6 : decode cX8_boat 6 = .ok (.iload_n 1, 1) := by decide +kernel
theorem dX8_boat_7 : decode cX8_boat 7 = .ok (.invokevirtual 237, 3) := by decide +kernel
theorem dX8_boat_10 : decode cX8_boat 10 = .ok (.ifCond .eq 15, 3) := by decide +kernel
theorem dX8_boat_13 : decode cX8_boat 13 = .ok (.iload_n 2, 1) := by decide +kernel
theorem dX8_boat_14 : decode cX8_boat 14 = .ok (.i2l, 1) := by decide +kernel
theorem dX8_boat_15 : decode cX8_boat 15 = .ok (.lconst 0, 1) := by decide +kernel
theorem dX8_boat_16 : decode cX8_boat 16 = .ok (.ldc2_w 73, 3) := by decide +kernel
theorem dX8_boat_19 : decode cX8_boat 19 = .ok (.invokestatic 75, 3) := by decide +kernel
theorem dX8_boat_22 : decode cX8_boat 22 = .ok (.ifCond .ne 6, 3) := by decide +kernel
theorem dX8_boat_25 : decode cX8_boat 25 = .ok (.ldc 85, 2) := by decide +kernel
theorem dX8_boat_27 : decode cX8_boat 27 = .ok (.ireturn, 1) := by decide +kernel
theorem dX8_boat_28 : decode cX8_boat 28 = .ok (.iload_n 2, 1) := by decide +kernel
theorem dX8_boat_29 : decode cX8_boat 29 = .ok (.tableswitch 66 4 7 #[31, 38, 46, 60], 31) := by decide +kernel
theorem dX8_boat_60 : decode cX8_boat 60 = .ok (.aload_n 0, 1) := by decide +kernel
theorem dX8_boat_61 : decode cX8_boat 61 = .ok (.iload_n 1, 1) := by decide +kernel
theorem dX8_boat_62 : decode cX8_boat 62 = .ok (.iconst 1, 1) := by decide +kernel
theorem dX8_boat_63 : decode cX8_boat 63 = .ok (.invokevirtual 206, 3) := by decide +kernel
theorem dX8_boat_66 : decode cX8_boat 66 = .ok (.ireturn, 1) := by decide +kernel
theorem dX8_boat_67 : decode cX8_boat 67 = .ok (.aload_n 0, 1) := by decide +kernel
theorem dX8_boat_68 : decode cX8_boat 68 = .ok (.iload_n 1, 1) := by decide +kernel
theorem dX8_boat_69 : decode cX8_boat 69 = .ok (.bipush 6, 2) := by decide +kernel
theorem dX8_boat_71 : decode cX8_boat 71 = .ok (.invokevirtual 206, 3) := by decide +kernel
theorem dX8_boat_74 : decode cX8_boat 74 = .ok (.ireturn, 1) := by decide +kernel
theorem dX8_boat_75 : decode cX8_boat 75 = .ok (.aload_n 0, 1) := by decide +kernel
theorem dX8_boat_76 : decode cX8_boat 76 = .ok (.iload_n 1, 1) := by decide +kernel
theorem dX8_boat_77 : decode cX8_boat 77 = .ok (.invokevirtual 248, 3) := by decide +kernel
theorem dX8_boat_80 : decode cX8_boat 80 = .ok (.ifCond .eq 7, 3) := by decide +kernel
theorem dX8_boat_83 : decode cX8_boat 83 = .ok (.iconst 1, 1) := by decide +kernel
theorem dX8_boat_84 : decode cX8_boat 84 = .ok (.goto 4, 3) := by decide +kernel
theorem dX8_boat_87 : decode cX8_boat 87 = .ok (.iconst 0, 1) := by decide +kernel
theorem dX8_boat_88 : decode cX8_boat 88 = .ok (.ireturn, 1) := by decide +kernel
theorem dX8_boat_89 : decode cX8_boat 89 = .ok (.aload_n 0, 1) := by decide +kernel
theorem dX8_boat_90 : decode cX8_boat 90 = .ok (.iload_n 1, 1) := by decide +kernel
theorem dX8_boat_91 : decode cX8_boat 91 = .ok (.invokevirtual 256, 3) := by decide +kernel
theorem dX8_boat_94 : decode cX8_boat 94 = .ok (.ireturn, 1) := by decide +kernel
theorem dX8_boat_95 : decode cX8_boat 95 = .ok (.aload_n 0, 1) := by decide +kernel
theorem dX8_boat_96 : decode cX8_boat 96 = .ok (.iload_n 1, 1) := by decide +kernel
theorem dX8_boat_97 : decode cX8_boat 97 = .ok (.iconst 2, 1) := by decide +kernel
theorem dX8_boat_98 : decode cX8_boat 98 = .ok (.iload_n 2, 1) := by decide +kernel
theorem dX8_boat_99 : decode cX8_boat 99 = .ok (.iadd, 1) := by decide +kernel
theorem dX8_boat_100 : decode cX8_boat 100 = .ok (.invokevirtual 206, 3) := by decide +kernel
theorem dX8_boat_103 : decode cX8_boat 103 = .ok (.ireturn, 1) := by decide +kernel
theorem yv_X8_boat : YV yX8_boat cX8_boat 3 (some .int) 2 := ⟨m1200, m1201, m9, m1202, ⟨by decide +kernel, by decide +kernel, by decide +kernel⟩, by decide⟩
noncomputable def f_X8_boat (q : Nat) (x1 : Int32) (x2 : Int32) (h : AH) : Option (Int32 × AH) := lt (hset h q 0 0) (fun h_1 => bd (f_X8_isBoat q x1 h_1) (fun v_3 h_2 => if v_3 = 0 then (some ((-1000001), h_2)) else (bd (f_X8_in ((x2 : Int32).toInt64) 0 7 h_2) (fun v_5 h_4 => if v_5 = 0 then (some ((-1000001), h_4)) else (if x2 = 4 then (bd (f_X8_of q x1 1 h_4) (fun v_7 h_6 => some (v_7, h_6))) else (if x2 = 5 then (bd (f_X8_of q x1 6 h_4) (fun v_9 h_8 => some (v_9, h_8))) else (if x2 = 6 then (bd (f_X8_isMixed q x1 h_4) (fun v_11 h_10 => if v_11 = 0 then (some (0, h_10)) else (some (1, h_10)))) else (if x2 = 7 then (bd (f_X8_portersOf q x1 h_4) (fun v_13 h_12 => some (v_13, h_12))) else (bd (f_X8_of q x1 (2 + x2) h_4) (fun v_15 h_14 => some (v_15, h_14)))))))))))
set_option maxRecDepth 20000 in
set_option maxHeartbeats 4000000 in
theorem ct_X8_boat (l : Launch) (g : GC) {q : Nat} (hq : (gL g)[q]? = some (.inl 8)) (x1 : Int32) (x2 : Int32) : Ct l yX8_boat cX8_boat 3 (some .int) 4 [.ref (gad g q), .int x1, .int x2] g mkI (fun h => f_X8_boat q x1 x2 h) := by
  refine Ct.of (by decide +kernel) (Nat.le_of_ble_eq_true rfl) (fun z A h _ F => ?_)
  show Snd z 3 g A (QF z g A mkI) 0 [(0, .ref (gad g q)), (1, .int x1), (2, .int x2)] [] h (f_X8_boat q x1 x2 h)
  unfold f_X8_boat
  refine s_aload_n F dX8_boat_0 rfl 0 rfl ?_
  refine s_iconst F (v := 0) dX8_boat_1 (by decide) ?_
  refine s_put F ciX8 (k := 0) hq (by decide) rfl rfl rfl rfl m893 dX8_boat_2 ?_
  refine s_letH (fun h_1 => ?_)
  refine s_aload_n F dX8_boat_5 rfl 0 rfl ?_
  refine s_iload_n F dX8_boat_6 rfl 1 rfl ?_
  refine s_callVi (f := fun hh => f_X8_isBoat q x1 hh) (As := [.int x1]) F yv_X8_isBoat (ct_X8_isBoat z.2.1 g hq x1) (by decide) m1138 hq rfl rfl rfl (Nat.le_of_ble_eq_true rfl) dX8_boat_7 (fun v_3 h_2 e_v_3 => ?_)
  refine s_if_eq F 25 dX8_boat_10 (by decide) (fun _ => ?_) (fun _ => ?_)
  · refine s_ldc F (v := (-1000001)) dX8_boat_25 m1009 ?_
    exact s_iret F dX8_boat_27
  · refine s_iload_n F dX8_boat_13 rfl 2 rfl ?_
    refine s_i2l F dX8_boat_14 ?_
    refine s_lconst F (v := 0) dX8_boat_15 (by decide) ?_
    refine s_ldc2 F (v := 7) dX8_boat_16 m1004 ?_
    refine s_callSi (f := fun hh => f_X8_in ((x2 : Int32).toInt64) 0 7 hh) (As := [.long ((x2 : Int32).toInt64), .long 0, .long 7]) F ys_X8_in (ct_X8_in z.2.1 g ((x2 : Int32).toInt64) 0 7) (by decide) m1005 rfl rfl (Nat.le_of_ble_eq_true rfl) dX8_boat_19 (fun v_5 h_4 e_v_5 => ?_)
    refine s_if_ne F 28 dX8_boat_22 (by decide) (fun _ => ?_) (fun _ => ?_)
    · refine s_iload_n F dX8_boat_28 rfl 2 rfl ?_
      refine s_case 4 ?_ (fun n4 => ?_)
      · refine s_tabIn F (off := 31) 60 dX8_boat_29 (by decide) (by decide) rfl (by decide) ?_
        refine s_aload_n F dX8_boat_60 rfl 0 rfl ?_
        refine s_iload_n F dX8_boat_61 rfl 1 rfl ?_
        refine s_iconst F (v := 1) dX8_boat_62 (by decide) ?_
        refine s_callVi (f := fun hh => f_X8_of q x1 1 hh) (As := [.int x1, .int 1]) F yv_X8_of (ct_X8_of z.2.1 g hq x1 1) (by decide) m1146 hq rfl rfl rfl (Nat.le_of_ble_eq_true rfl) dX8_boat_63 (fun v_7 h_6 e_v_7 => ?_)
        exact s_iret F dX8_boat_66
      refine s_case 5 ?_ (fun n5 => ?_)
      · refine s_tabIn F (off := 38) 67 dX8_boat_29 (by decide) (by decide) rfl (by decide) ?_
        refine s_aload_n F dX8_boat_67 rfl 0 rfl ?_
        refine s_iload_n F dX8_boat_68 rfl 1 rfl ?_
        refine s_bipush F (v := 6) dX8_boat_69 (by decide) ?_
        refine s_callVi (f := fun hh => f_X8_of q x1 6 hh) (As := [.int x1, .int 6]) F yv_X8_of (ct_X8_of z.2.1 g hq x1 6) (by decide) m1146 hq rfl rfl rfl (Nat.le_of_ble_eq_true rfl) dX8_boat_71 (fun v_9 h_8 e_v_9 => ?_)
        exact s_iret F dX8_boat_74
      refine s_case 6 ?_ (fun n6 => ?_)
      · refine s_tabIn F (off := 46) 75 dX8_boat_29 (by decide) (by decide) rfl (by decide) ?_
        refine s_aload_n F dX8_boat_75 rfl 0 rfl ?_
        refine s_iload_n F dX8_boat_76 rfl 1 rfl ?_
        refine s_callVi (f := fun hh => f_X8_isMixed q x1 hh) (As := [.int x1]) F yv_X8_isMixed (ct_X8_isMixed z.2.1 g hq x1) (by decide) m1174 hq rfl rfl rfl (Nat.le_of_ble_eq_true rfl) dX8_boat_77 (fun v_11 h_10 e_v_11 => ?_)
        refine s_if_eq F 87 dX8_boat_80 (by decide) (fun _ => ?_) (fun _ => ?_)
        · refine s_iconst F (v := 0) dX8_boat_87 (by decide) ?_
          exact s_iret F dX8_boat_88
        · refine s_iconst F (v := 1) dX8_boat_83 (by decide) ?_
          refine s_goto F 88 dX8_boat_84 (by decide) ?_
          exact s_iret F dX8_boat_88
      refine s_case 7 ?_ (fun n7 => ?_)
      · refine s_tabIn F (off := 60) 89 dX8_boat_29 (by decide) (by decide) rfl (by decide) ?_
        refine s_aload_n F dX8_boat_89 rfl 0 rfl ?_
        refine s_iload_n F dX8_boat_90 rfl 1 rfl ?_
        refine s_callVi (f := fun hh => f_X8_portersOf q x1 hh) (As := [.int x1]) F yv_X8_portersOf (ct_X8_portersOf z.2.1 g hq x1) (by decide) m1203 hq rfl rfl rfl (Nat.le_of_ble_eq_true rfl) dX8_boat_91 (fun v_13 h_12 e_v_13 => ?_)
        exact s_iret F dX8_boat_94
      refine s_tabOut F 95 dX8_boat_29 (by decide) (s_out 4 7 4 (by decide) (by decide) (by decide) (fun j hj => ?_)) ?_
      · rcases (show j = 0 ∨ j = 1 ∨ j = 2 ∨ j = 3 by omega) with rfl | rfl | rfl | rfl
        · exact n4
        · exact n5
        · exact n6
        · exact n7
      refine s_aload_n F dX8_boat_95 rfl 0 rfl ?_
      refine s_iload_n F dX8_boat_96 rfl 1 rfl ?_
      refine s_iconst F (v := 2) dX8_boat_97 (by decide) ?_
      refine s_iload_n F dX8_boat_98 rfl 2 rfl ?_
      refine s_iadd F dX8_boat_99 ?_
      refine s_callVi (f := fun hh => f_X8_of q x1 (2 + x2) hh) (As := [.int x1, .int (2 + x2)]) F yv_X8_of (ct_X8_of z.2.1 g hq x1 (2 + x2)) (by decide) m1146 hq rfl rfl rfl (Nat.le_of_ble_eq_true rfl) dX8_boat_100 (fun v_15 h_14 e_v_15 => ?_)
      exact s_iret F dX8_boat_103
    · refine s_ldc F (v := (-1000001)) dX8_boat_25 m1009 ?_
      exact s_iret F dX8_boat_27
theorem dX8_isHour_0 : decode cX8_isHour 0 = .ok (.iload_n 0, 1) := by decide +kernel
theorem dX8_isHour_1 : decode cX8_isHour 1 = .ok (.i2l, 1) := by decide +kernel
theorem dX8_isHour_2 : decode cX8_isHour 2 = .ok (.lconst 0, 1) := by decide +kernel
theorem dX8_isHour_3 : decode cX8_isHour 3 = .ok (.ldc2_w 202, 3) := by decide +kernel
theorem dX8_isHour_6 : decode cX8_isHour 6 = .ok (.invokestatic 75, 3) := by decide +kernel
theorem dX8_isHour_9 : decode cX8_isHour 9 = .ok (.ireturn, 1) := by decide +kernel
theorem ys_X8_isHour : YS yX8_isHour cX8_isHour 1 (some .boolean) 1 := ⟨m1212, m9, m1213, ⟨by decide +kernel, by decide +kernel, by decide +kernel⟩, by decide⟩
noncomputable def f_X8_isHour (x0 : Int32) (h : AH) : Option (Int32 × AH) := bd (f_X8_in ((x0 : Int32).toInt64) 0 11 h) (fun v_2 h_1 => gz v_2 (some (v_2, h_1)))
set_option maxRecDepth 20000 in
set_option maxHeartbeats 4000000 in
theorem ct_X8_isHour (l : Launch) (g : GC) (x0 : Int32) : Ct l yX8_isHour cX8_isHour 1 (some .boolean) 2 [.int x0] g mkI (fun h => f_X8_isHour x0 h) := by
  refine Ct.of (by decide +kernel) (Nat.le_of_ble_eq_true rfl) (fun z A h _ F => ?_)
  show Snd z 1 g A (QF z g A mkI) 0 [(0, .int x0)] [] h (f_X8_isHour x0 h)
  unfold f_X8_isHour
  refine s_iload_n F dX8_isHour_0 rfl 0 rfl ?_
  refine s_i2l F dX8_isHour_1 ?_
  refine s_lconst F (v := 0) dX8_isHour_2 (by decide) ?_
  refine s_ldc2 F (v := 11) dX8_isHour_3 m1214 ?_
  refine s_callSi (f := fun hh => f_X8_in ((x0 : Int32).toInt64) 0 11 hh) (As := [.long ((x0 : Int32).toInt64), .long 0, .long 11]) F ys_X8_in (ct_X8_in z.2.1 g ((x0 : Int32).toInt64) 0 11) (by decide) m1005 rfl rfl (Nat.le_of_ble_eq_true rfl) dX8_isHour_6 (fun v_2 h_1 e_v_2 => ?_)
  exact s_zret F dX8_isHour_9
theorem dX8_may_0 : decode cX8_may 0 = .ok (.aload_n 0, 1) := by decide +kernel
theorem dX8_may_1 : decode cX8_may 1 = .ok (.iconst 0, 1) := by decide +kernel
theorem dX8_may_2 : decode cX8_may 2 = .ok (.putfield 65, 3) := by decide +kernel
theorem dX8_may_5 : decode cX8_may 5 = .ok (.aload_n 0, 1) := by decide +kernel
theorem dX8_may_6 : decode cX8_may 6 = .ok (.iload_n 1, 1) := by decide +kernel
theorem dX8_may_7 : decode cX8_may 7 = .ok (.invokevirtual 237, 3) := by decide +kernel
theorem dX8_may_10 : decode cX8_may 10 = .ok (.ifCond .eq 10, 3) := by decide +kernel
theorem dX8_may_13 : decode cX8_may 13 = .ok (.iload_n 2, 1) := by decide +kernel
theorem dX8_may_14 : decode cX8_may 14 = .ok (.invokestatic 259, 3) := by decide +kernel
theorem dX8_may_17 : decode cX8_may 17 = .ok (.ifCond .ne 6, 3) := by decide +kernel
theorem dX8_may_20 : decode cX8_may 20 = .ok (.ldc 85, 2) := by decide +kernel
theorem dX8_may_22 : decode cX8_may 22 = .ok (.ireturn, 1) := by decide +kernel
theorem dX8_may_23 : decode cX8_may 23 = .ok (.iconst 0, 1) := by decide +kernel
theorem dX8_may_24 : decode cX8_may 24 = .ok (.istore_n 3, 1) := by decide +kernel
theorem dX8_may_25 : decode cX8_may 25 = .ok (.iconst 0, 1) := by decide +kernel
theorem dX8_may_26 : decode cX8_may 26 = .ok (.istore 4, 2) := by decide +kernel
theorem dX8_may_28 : decode cX8_may 28 = .ok (.iload 4, 2) := by decide +kernel
theorem dX8_may_30 : decode cX8_may 30 = .ok (.aload_n 0, 1) := by decide +kernel
theorem dX8_may_31 : decode cX8_may 31 = .ok (.getfield 19, 3) := by decide +kernel
theorem dX8_may_34 : decode cX8_may 34 = .ok (.iconst 0, 1) := by decide +kernel
theorem dX8_may_35 : decode cX8_may 35 = .ok (.iaload, 1) := by decide +kernel
theorem dX8_may_36 : decode cX8_may 36 = .ok (.if_icmp .ge 31, 3) := by decide +kernel
theorem dX8_may_39 : decode cX8_may 39 = .ok (.iload_n 3, 1) := by decide +kernel
theorem dX8_may_40 : decode cX8_may 40 = .ok (.aload_n 0, 1) := by decide +kernel
theorem dX8_may_41 : decode cX8_may 41 = .ok (.iload_n 1, 1) := by decide +kernel
theorem dX8_may_42 : decode cX8_may 42 = .ok (.iload 4, 2) := by decide +kernel
theorem dX8_may_44 : decode cX8_may 44 = .ok (.iload_n 2, 1) := by decide +kernel
theorem dX8_may_45 : decode cX8_may 45 = .ok (.invokevirtual 240, 3) := by decide +kernel
theorem dX8_may_48 : decode cX8_may 48 = .ok (.ifCond .eq 10, 3) := by decide +kernel
theorem dX8_may_51 : decode cX8_may 51 = .ok (.iconst 1, 1) := by decide +kernel
theorem dX8_may_52 : decode cX8_may 52 = .ok (.iload 4, 2) := by decide +kernel
theorem dX8_may_54 : decode cX8_may 54 = .ok (.ishl, 1) := by decide +kernel
theorem dX8_may_55 : decode cX8_may 55 = .ok (.goto 4, 3) := by decide +kernel
theorem dX8_may_58 : decode cX8_may 58 = .ok (.iconst 0, 1) := by decide +kernel
theorem dX8_may_59 : decode cX8_may 59 = .ok (.ior, 1) := by decide +kernel
theorem dX8_may_60 : decode cX8_may 60 = .ok (.istore_n 3, 1) := by decide +kernel
theorem dX8_may_61 : decode cX8_may 61 = .ok (.iinc 4 1, 3) := by decide +kernel
theorem dX8_may_64 : decode cX8_may 64 = .ok (.goto (-36), 3) := by decide +kernel
theorem dX8_may_67 : decode cX8_may 67 = .ok (.iload_n 3, 1) := by decide +kernel
theorem dX8_may_68 : decode cX8_may 68 = .ok (.ireturn, 1) := by decide +kernel
theorem yv_X8_may : YV yX8_may cX8_may 5 (some .int) 2 := ⟨m1208, m1209, m9, m1210, ⟨by decide +kernel, by decide +kernel, by decide +kernel⟩, by decide⟩
noncomputable def f_X8_may_28 (q : Nat) : Nat → Int32 → Int32 → Int32 → Int32 → AH → Option (Int32 × AH)
  | 0, _, _, _, _, _ => none
  | n + 1, x1, x2, x3, x4, h => ck 0 100 (if (h (q + 4) (0 : Int32).toNatClampNeg) ≤ x4 then (some (x3, h)) else (bd (f_X8_mayGo q x1 x4 x2 h) (fun v_3 h_2 => if v_3 = 0 then (lt ((x3 ||| 0)) (fun v_4 => lt (x4 + 1) (fun v_5 => (f_X8_may_28 q n) x1 x2 v_4 v_5 h_2))) else (lt ((x3 ||| (1 <<< (x4 &&& 31)))) (fun v_6 => lt (x4 + 1) (fun v_7 => (f_X8_may_28 q n) x1 x2 v_6 v_7 h_2))))))
set_option maxRecDepth 20000 in
set_option maxHeartbeats 4000000 in
theorem t_X8_may_28 {z : MC} {g : GC} {A : Nat → Prop} (F : Fx z cX8_may 5 RX8 (some .int) 5 g A) {q : Nat} (hq : (gL g)[q]? = some (.inl 8)) : ∀ (n : Nat) (x1 : Int32) (x2 : Int32) (x3 : Int32) (x4 : Int32) (h : AH), Snd z 5 g A (QF z g A mkI) 28 [(0, .ref (gad g q)), (1, .int x1), (2, .int x2), (3, .int x3), (4, .int x4)] [] h (f_X8_may_28 q n x1 x2 x3 x4 h) := by
  intro n
  induction n with
  | zero => intros; exact s_none
  | succ n ih =>
    intro x1 x2 x3 x4 h
    unfold f_X8_may_28
    refine s_iload F dX8_may_28 4 rfl ?_
    refine s_aload_n F dX8_may_30 rfl 0 rfl ?_
    have hw_1 := wf_ref F.2.2.2.2.2.2.1 hq 5 4 (.inr (0, 100)) rfl
    refine s_getr F ciX8 5 4 (.inr (0, 100)) hq (by decide) rfl rfl m898 dX8_may_31 ?_
    refine s_iconst F (v := 0) dX8_may_34 (by decide) ?_
    refine s_iald F hw_1 dX8_may_35 ?_
    refine s_icmp_ge F 67 dX8_may_36 (by decide) (fun _ => ?_) (fun _ => ?_)
    · refine s_iload_n F dX8_may_67 rfl 3 rfl ?_
      exact s_iret F dX8_may_68
    · refine s_iload_n F dX8_may_39 rfl 3 rfl ?_
      refine s_aload_n F dX8_may_40 rfl 0 rfl ?_
      refine s_iload_n F dX8_may_41 rfl 1 rfl ?_
      refine s_iload F dX8_may_42 4 rfl ?_
      refine s_iload_n F dX8_may_44 rfl 2 rfl ?_
      refine s_callVi (f := fun hh => f_X8_mayGo q x1 x4 x2 hh) (As := [.int x1, .int x4, .int x2]) F yv_X8_mayGo (ct_X8_mayGo z.2.1 g hq x1 x4 x2) (by decide) m1150 hq rfl rfl rfl (Nat.le_of_ble_eq_true rfl) dX8_may_45 (fun v_3 h_2 e_v_3 => ?_)
      refine s_if_eq F 58 dX8_may_48 (by decide) (fun _ => ?_) (fun _ => ?_)
      · refine s_iconst F (v := 0) dX8_may_58 (by decide) ?_
        refine s_ior F dX8_may_59 ?_
        refine s_leti (fun v_4 => ?_)
        refine s_istore_n F (lv' := [(3, .int v_4), (0, .ref (gad g q)), (1, .int x1), (2, .int x2), (4, .int x4)]) dX8_may_60 rfl (by decide) rfl ?_
        refine s_iincv F dX8_may_61 4 rfl (by decide) (c := 1) (by decide) (fun v_5 => ?_)
        refine s_lv (lv' := [(4, .int v_5), (3, .int v_4), (0, .ref (gad g q)), (1, .int x1), (2, .int x2)]) rfl ?_
        refine s_goto F 28 dX8_may_64 (by decide) ?_
        exact s_sub [2, 3, 4, 1, 0] rfl (ih x1 x2 v_4 v_5 h_2)
      · refine s_iconst F (v := 1) dX8_may_51 (by decide) ?_
        refine s_iload F dX8_may_52 4 rfl ?_
        refine s_ishl F dX8_may_54 ?_
        refine s_goto F 59 dX8_may_55 (by decide) ?_
        refine s_ior F dX8_may_59 ?_
        refine s_leti (fun v_6 => ?_)
        refine s_istore_n F (lv' := [(3, .int v_6), (0, .ref (gad g q)), (1, .int x1), (2, .int x2), (4, .int x4)]) dX8_may_60 rfl (by decide) rfl ?_
        refine s_iincv F dX8_may_61 4 rfl (by decide) (c := 1) (by decide) (fun v_7 => ?_)
        refine s_lv (lv' := [(4, .int v_7), (3, .int v_6), (0, .ref (gad g q)), (1, .int x1), (2, .int x2)]) rfl ?_
        refine s_goto F 28 dX8_may_64 (by decide) ?_
        exact s_sub [2, 3, 4, 1, 0] rfl (ih x1 x2 v_6 v_7 h_2)
noncomputable def f_X8_may (q : Nat) (x1 : Int32) (x2 : Int32) (h : AH) : Option (Int32 × AH) := lt (hset h q 0 0) (fun h_1 => bd (f_X8_isBoat q x1 h_1) (fun v_3 h_2 => if v_3 = 0 then (some ((-1000001), h_2)) else (bd (f_X8_isHour x2 h_2) (fun v_5 h_4 => if v_5 = 0 then (some ((-1000001), h_4)) else (f_X8_may_28 q fu x1 x2 0 0 h_4)))))
set_option maxRecDepth 20000 in
set_option maxHeartbeats 4000000 in
theorem ct_X8_may (l : Launch) (g : GC) {q : Nat} (hq : (gL g)[q]? = some (.inl 8)) (x1 : Int32) (x2 : Int32) : Ct l yX8_may cX8_may 5 (some .int) 5 [.ref (gad g q), .int x1, .int x2] g mkI (fun h => f_X8_may q x1 x2 h) := by
  refine Ct.of (by decide +kernel) (Nat.le_of_ble_eq_true rfl) (fun z A h _ F => ?_)
  show Snd z 5 g A (QF z g A mkI) 0 [(0, .ref (gad g q)), (1, .int x1), (2, .int x2)] [] h (f_X8_may q x1 x2 h)
  unfold f_X8_may
  refine s_aload_n F dX8_may_0 rfl 0 rfl ?_
  refine s_iconst F (v := 0) dX8_may_1 (by decide) ?_
  refine s_put F ciX8 (k := 0) hq (by decide) rfl rfl rfl rfl m893 dX8_may_2 ?_
  refine s_letH (fun h_1 => ?_)
  refine s_aload_n F dX8_may_5 rfl 0 rfl ?_
  refine s_iload_n F dX8_may_6 rfl 1 rfl ?_
  refine s_callVi (f := fun hh => f_X8_isBoat q x1 hh) (As := [.int x1]) F yv_X8_isBoat (ct_X8_isBoat z.2.1 g hq x1) (by decide) m1138 hq rfl rfl rfl (Nat.le_of_ble_eq_true rfl) dX8_may_7 (fun v_3 h_2 e_v_3 => ?_)
  refine s_if_eq F 20 dX8_may_10 (by decide) (fun _ => ?_) (fun _ => ?_)
  · refine s_ldc F (v := (-1000001)) dX8_may_20 m1009 ?_
    exact s_iret F dX8_may_22
  · refine s_iload_n F dX8_may_13 rfl 2 rfl ?_
    refine s_callSi (f := fun hh => f_X8_isHour x2 hh) (As := [.int x2]) F ys_X8_isHour (ct_X8_isHour z.2.1 g x2) (by decide) m1211 rfl rfl (Nat.le_of_ble_eq_true rfl) dX8_may_14 (fun v_5 h_4 e_v_5 => ?_)
    refine s_if_ne F 23 dX8_may_17 (by decide) (fun _ => ?_) (fun _ => ?_)
    · refine s_iconst F (v := 0) dX8_may_23 (by decide) ?_
      refine s_istore_n F (lv' := [(3, .int 0), (0, .ref (gad g q)), (1, .int x1), (2, .int x2)]) dX8_may_24 rfl (by decide) rfl ?_
      refine s_iconst F (v := 0) dX8_may_25 (by decide) ?_
      refine s_istore F (lv' := [(4, .int 0), (3, .int 0), (0, .ref (gad g q)), (1, .int x1), (2, .int x2)]) dX8_may_26 (by decide) rfl ?_
      exact s_sub [2, 3, 4, 1, 0] rfl (t_X8_may_28 F hq fu x1 x2 0 0 h_4)
    · refine s_ldc F (v := (-1000001)) dX8_may_20 m1009 ?_
      exact s_iret F dX8_may_22
