theorem dX7_withBit_0 : decode cX7_withBit 0 = .ok (.iload_n 0, 1) := by decide +kernel
theorem dX7_withBit_1 : decode cX7_withBit 1 = .ok (.iconst 1, 1) := by decide +kernel
theorem dX7_withBit_2 : decode cX7_withBit 2 = .ok (.iload_n 1, 1) := by decide +kernel
theorem dX7_withBit_3 : decode cX7_withBit 3 = .ok (.ishl, 1) := by decide +kernel
theorem dX7_withBit_4 : decode cX7_withBit 4 = .ok (.iconst (-1), 1) := by decide +kernel
theorem dX7_withBit_5 : decode cX7_withBit 5 = .ok (.ixor, 1) := by decide +kernel
theorem dX7_withBit_6 : decode cX7_withBit 6 = .ok (.iand, 1) := by decide +kernel
theorem dX7_withBit_7 : decode cX7_withBit 7 = .ok (.iload_n 2, 1) := by decide +kernel
theorem dX7_withBit_8 : decode cX7_withBit 8 = .ok (.iload_n 1, 1) := by decide +kernel
theorem dX7_withBit_9 : decode cX7_withBit 9 = .ok (.ishl, 1) := by decide +kernel
theorem dX7_withBit_10 : decode cX7_withBit 10 = .ok (.ior, 1) := by decide +kernel
theorem dX7_withBit_11 : decode cX7_withBit 11 = .ok (.ireturn, 1) := by decide +kernel
theorem ys_X7_withBit : YS yX7_withBit cX7_withBit 3 (some .int) 3 := ⟨m556, m1, m557, ⟨by decide +kernel, by decide +kernel, by decide +kernel⟩, by decide⟩
noncomputable def f_X7_withBit (x0 : Int32) (x1 : Int32) (x2 : Int32) (h : AH) : Option (Int32 × AH) := some (((x0 &&& ((1 <<< (x1 &&& 31)) ^^^ (-1))) ||| (x2 <<< (x1 &&& 31))), h)
set_option maxRecDepth 20000 in
set_option maxHeartbeats 4000000 in
theorem ct_X7_withBit (l : Launch) (g : GC) (x0 : Int32) (x1 : Int32) (x2 : Int32) : Ct l yX7_withBit cX7_withBit 3 (some .int) 1 [.int x0, .int x1, .int x2] g mkI (fun h => f_X7_withBit x0 x1 x2 h) := by
  refine Ct.of (by decide +kernel) (Nat.le_of_ble_eq_true rfl) (fun z A h _ F => ?_)
  show Snd z 3 g A (QF z g A mkI) 0 [(0, .int x0), (1, .int x1), (2, .int x2)] [] h (f_X7_withBit x0 x1 x2 h)
  unfold f_X7_withBit
  refine s_iload_n F dX7_withBit_0 rfl 0 rfl ?_
  refine s_iconst F (v := 1) dX7_withBit_1 (by decide) ?_
  refine s_iload_n F dX7_withBit_2 rfl 1 rfl ?_
  refine s_ishl F dX7_withBit_3 ?_
  refine s_iconst F (v := (-1)) dX7_withBit_4 (by decide) ?_
  refine s_ixor F dX7_withBit_5 ?_
  refine s_iand F dX7_withBit_6 ?_
  refine s_iload_n F dX7_withBit_7 rfl 2 rfl ?_
  refine s_iload_n F dX7_withBit_8 rfl 1 rfl ?_
  refine s_ishl F dX7_withBit_9 ?_
  refine s_ior F dX7_withBit_10 ?_
  exact s_iret F dX7_withBit_11
theorem dJ7_fill_53178_0 : decode cJ7_fill_53178 0 = .ok (.iconst 0, 1) := by decide +kernel
theorem dJ7_fill_53178_1 : decode cJ7_fill_53178 1 = .ok (.istore_n 2, 1) := by decide +kernel
theorem dJ7_fill_53178_2 : decode cJ7_fill_53178 2 = .ok (.aload_n 0, 1) := by decide +kernel
theorem dJ7_fill_53178_3 : decode cJ7_fill_53178 3 = .ok (.arraylength, 1) := by decide +kernel
theorem dJ7_fill_53178_4 : decode cJ7_fill_53178 4 = .ok (.istore_n 3, 1) := by decide +kernel
theorem dJ7_fill_53178_5 : decode cJ7_fill_53178 5 = .ok (.iload_n 2, 1) := by decide +kernel
theorem dJ7_fill_53178_6 : decode cJ7_fill_53178 6 = .ok (.iload_n 3, 1) := by decide +kernel
theorem dJ7_fill_53178_7 : decode cJ7_fill_53178 7 = .ok (.if_icmp .ge 13, 3) := by decide +kernel
theorem dJ7_fill_53178_10 : decode cJ7_fill_53178 10 = .ok (.aload_n 0, 1) := by decide +kernel
theorem dJ7_fill_53178_11 : decode cJ7_fill_53178 11 = .ok (.iload_n 2, 1) := by decide +kernel
theorem dJ7_fill_53178_12 : decode cJ7_fill_53178 12 = .ok (.iload_n 1, 1) := by decide +kernel
theorem dJ7_fill_53178_13 : decode cJ7_fill_53178 13 = .ok (.iastore, 1) := by decide +kernel
theorem dJ7_fill_53178_14 : decode cJ7_fill_53178 14 = .ok (.iinc 2 1, 3) := by decide +kernel
theorem dJ7_fill_53178_17 : decode cJ7_fill_53178 17 = .ok (.goto (-12), 3) := by decide +kernel
theorem dJ7_fill_53178_20 : decode cJ7_fill_53178 20 = .ok (.return_, 1) := by decide +kernel
theorem ys_J7_fill_53178 : YS yJ7_fill_53178 cJ7_fill_53178 4 none 2 := ⟨m362, m11, m363, ⟨by decide +kernel, by decide +kernel, by decide +kernel⟩, by decide⟩
noncomputable def f_J7_fill_53178_5 (r0 n0 : Nat) : Nat → Int32 → Int32 → Int32 → AH → Option (Unit × AH)
  | 0, _, _, _, _ => none
  | n + 1, x1, x2, x3, h => if x3 ≤ x2 then (some ((), h)) else (ck x2 n0 (lt (hset h r0 (x2 : Int32).toNatClampNeg x1) (fun h_1 => lt (x2 + 1) (fun v_2 => (f_J7_fill_53178_5 r0 n0 n) x1 v_2 x3 h_1))))
set_option maxRecDepth 20000 in
set_option maxHeartbeats 4000000 in
theorem t_J7_fill_53178_5 {z : MC} {g : GC} {A : Nat → Prop} (F : Fx z cJ7_fill_53178 4 RJ7 none 1 g A) {r0 n0 : Nat} (hr0 : (gL g)[r0]? = some (.inr (0, n0))) : ∀ (n : Nat) (x1 : Int32) (x2 : Int32) (x3 : Int32) (h : AH), Snd z 4 g A (QF z g A mkU) 5 [(0, .ref (gad g r0)), (1, .int x1), (2, .int x2), (3, .int x3)] [] h (f_J7_fill_53178_5 r0 n0 n x1 x2 x3 h) := by
  intro n
  induction n with
  | zero => intros; exact s_none
  | succ n ih =>
    intro x1 x2 x3 h
    unfold f_J7_fill_53178_5
    refine s_iload_n F dJ7_fill_53178_5 rfl 2 rfl ?_
    refine s_iload_n F dJ7_fill_53178_6 rfl 3 rfl ?_
    refine s_icmp_ge F 20 dJ7_fill_53178_7 (by decide) (fun _ => ?_) (fun _ => ?_)
    · exact s_vret F dJ7_fill_53178_20
    · refine s_aload_n F dJ7_fill_53178_10 rfl 0 rfl ?_
      refine s_iload_n F dJ7_fill_53178_11 rfl 2 rfl ?_
      refine s_iload_n F dJ7_fill_53178_12 rfl 1 rfl ?_
      refine s_iast F hr0 dJ7_fill_53178_13 ?_
      refine s_letH (fun h_1 => ?_)
      refine s_iincv F dJ7_fill_53178_14 2 rfl (by decide) (c := 1) (by decide) (fun v_2 => ?_)
      refine s_lv (lv' := [(2, .int v_2), (0, .ref (gad g r0)), (1, .int x1), (3, .int x3)]) rfl ?_
      refine s_goto F 5 dJ7_fill_53178_17 (by decide) ?_
      exact s_sub [1, 2, 0, 3] rfl (ih x1 v_2 x3 h_1)
noncomputable def f_J7_fill_53178 (r0 n0 : Nat) (x1 : Int32) (h : AH) : Option (Unit × AH) := lt (Int32.ofNat n0) (fun v_1 => f_J7_fill_53178_5 r0 n0 fu x1 0 v_1 h)
set_option maxRecDepth 20000 in
set_option maxHeartbeats 4000000 in
theorem ct_J7_fill_53178 (l : Launch) (g : GC) {r0 n0 : Nat} (hr0 : (gL g)[r0]? = some (.inr (0, n0))) (x1 : Int32) : Ct l yJ7_fill_53178 cJ7_fill_53178 4 none 1 [.ref (gad g r0), .int x1] g mkU (fun h => f_J7_fill_53178 r0 n0 x1 h) := by
  refine Ct.of (by decide +kernel) (Nat.le_of_ble_eq_true rfl) (fun z A h _ F => ?_)
  show Snd z 4 g A (QF z g A mkU) 0 [(0, .ref (gad g r0)), (1, .int x1)] [] h (f_J7_fill_53178 r0 n0 x1 h)
  unfold f_J7_fill_53178
  refine s_iconst F (v := 0) dJ7_fill_53178_0 (by decide) ?_
  refine s_istore_n F (lv' := [(2, .int 0), (0, .ref (gad g r0)), (1, .int x1)]) dJ7_fill_53178_1 rfl (by decide) rfl ?_
  refine s_aload_n F dJ7_fill_53178_2 rfl 1 rfl ?_
  refine s_alen F (v := Int32.ofNat n0) hr0 rfl dJ7_fill_53178_3 ?_
  refine s_leti (fun v_1 => ?_)
  refine s_istore_n F (lv' := [(3, .int v_1), (2, .int 0), (0, .ref (gad g r0)), (1, .int x1)]) dJ7_fill_53178_4 rfl (by decide) rfl ?_
  exact s_sub [2, 3, 1, 0] rfl (t_J7_fill_53178_5 F hr0 fu x1 0 v_1 h)
theorem dX7_bitOf_0 : decode cX7_bitOf 0 = .ok (.iload_n 0, 1) := by decide +kernel
theorem dX7_bitOf_1 : decode cX7_bitOf 1 = .ok (.iload_n 1, 1) := by decide +kernel
theorem dX7_bitOf_2 : decode cX7_bitOf 2 = .ok (.ishr, 1) := by decide +kernel
theorem dX7_bitOf_3 : decode cX7_bitOf 3 = .ok (.iconst 1, 1) := by decide +kernel
theorem dX7_bitOf_4 : decode cX7_bitOf 4 = .ok (.iand, 1) := by decide +kernel
theorem dX7_bitOf_5 : decode cX7_bitOf 5 = .ok (.ireturn, 1) := by decide +kernel
theorem ys_X7_bitOf : YS yX7_bitOf cX7_bitOf 2 (some .int) 2 := ⟨m553, m1, m554, ⟨by decide +kernel, by decide +kernel, by decide +kernel⟩, by decide⟩
noncomputable def f_X7_bitOf (x0 : Int32) (x1 : Int32) (h : AH) : Option (Int32 × AH) := some (((x0 >>> (x1 &&& 31)) &&& 1), h)
set_option maxRecDepth 20000 in
set_option maxHeartbeats 4000000 in
theorem ct_X7_bitOf (l : Launch) (g : GC) (x0 : Int32) (x1 : Int32) : Ct l yX7_bitOf cX7_bitOf 2 (some .int) 1 [.int x0, .int x1] g mkI (fun h => f_X7_bitOf x0 x1 h) := by
  refine Ct.of (by decide +kernel) (Nat.le_of_ble_eq_true rfl) (fun z A h _ F => ?_)
  show Snd z 2 g A (QF z g A mkI) 0 [(0, .int x0), (1, .int x1)] [] h (f_X7_bitOf x0 x1 h)
  unfold f_X7_bitOf
  refine s_iload_n F dX7_bitOf_0 rfl 0 rfl ?_
  refine s_iload_n F dX7_bitOf_1 rfl 1 rfl ?_
  refine s_ishr F dX7_bitOf_2 ?_
  refine s_iconst F (v := 1) dX7_bitOf_3 (by decide) ?_
  refine s_iand F dX7_bitOf_4 ?_
  exact s_iret F dX7_bitOf_5
theorem dJ6_bitCount_0f7a4_0 : decode cJ6_bitCount_0f7a4 0 = .ok (.iload_n 0, 1) := by decide +kernel
theorem dJ6_bitCount_0f7a4_1 : decode cJ6_bitCount_0f7a4 1 = .ok (.iload_n 0, 1) := by decide +kernel
theorem dJ6_bitCount_0f7a4_2 : decode cJ6_bitCount_0f7a4 2 = .ok (.iconst 1, 1) := by decide +kernel
theorem dJ6_bitCount_0f7a4_3 : decode cJ6_bitCount_0f7a4 3 = .ok (.iushr, 1) := by decide +kernel
theorem dJ6_bitCount_0f7a4_4 : decode cJ6_bitCount_0f7a4 4 = .ok (.ldc_w 265, 3) := by decide +kernel
theorem dJ6_bitCount_0f7a4_7 : decode cJ6_bitCount_0f7a4 7 = .ok (.iand, 1) := by decide +kernel
theorem dJ6_bitCount_0f7a4_8 : decode cJ6_bitCount_0f7a4 8 = .ok (.isub, 1) := by decide +kernel
theorem dJ6_bitCount_0f7a4_9 : decode cJ6_bitCount_0f7a4 9 = .ok (.istore_n 0, 1) := by decide +kernel
theorem dJ6_bitCount_0f7a4_10 : decode cJ6_bitCount_0f7a4 10 = .ok (.iload_n 0, 1) := by decide +kernel
theorem dJ6_bitCount_0f7a4_11 : decode cJ6_bitCount_0f7a4 11 = .ok (.ldc_w 266, 3) := by decide +kernel
theorem dJ6_bitCount_0f7a4_14 : decode cJ6_bitCount_0f7a4 14 = .ok (.iand, 1) := by decide +kernel
theorem dJ6_bitCount_0f7a4_15 : decode cJ6_bitCount_0f7a4 15 = .ok (.iload_n 0, 1) := by decide +kernel
theorem dJ6_bitCount_0f7a4_16 : decode cJ6_bitCount_0f7a4 16 = .ok (.iconst 2, 1) := by decide +kernel
theorem dJ6_bitCount_0f7a4_17 : decode cJ6_bitCount_0f7a4 17 = .ok (.iushr, 1) := by decide +kernel
theorem dJ6_bitCount_0f7a4_18 : decode cJ6_bitCount_0f7a4 18 = .ok (.ldc_w 266, 3) := by decide +kernel
theorem dJ6_bitCount_0f7a4_21 : decode cJ6_bitCount_0f7a4 21 = .ok (.iand, 1) := by decide +kernel
theorem dJ6_bitCount_0f7a4_22 : decode cJ6_bitCount_0f7a4 22 = .ok (.iadd, 1) := by decide +kernel
theorem dJ6_bitCount_0f7a4_23 : decode cJ6_bitCount_0f7a4 23 = .ok (.istore_n 0, 1) := by decide +kernel
theorem dJ6_bitCount_0f7a4_24 : decode cJ6_bitCount_0f7a4 24 = .ok (.iload_n 0, 1) := by decide +kernel
theorem dJ6_bitCount_0f7a4_25 : decode cJ6_bitCount_0f7a4 25 = .ok (.iload_n 0, 1) := by decide +kernel
theorem dJ6_bitCount_0f7a4_26 : decode cJ6_bitCount_0f7a4 26 = .ok (.iconst 4, 1) := by decide +kernel
theorem dJ6_bitCount_0f7a4_27 : decode cJ6_bitCount_0f7a4 27 = .ok (.iushr, 1) := by decide +kernel
theorem dJ6_bitCount_0f7a4_28 : decode cJ6_bitCount_0f7a4 28 = .ok (.iadd, 1) := by decide +kernel
theorem dJ6_bitCount_0f7a4_29 : decode cJ6_bitCount_0f7a4 29 = .ok (.ldc_w 267, 3) := by decide +kernel
theorem dJ6_bitCount_0f7a4_32 : decode cJ6_bitCount_0f7a4 32 = .ok (.iand, 1) := by decide +kernel
theorem dJ6_bitCount_0f7a4_33 : decode cJ6_bitCount_0f7a4 33 = .ok (.istore_n 0, 1) := by decide +kernel
theorem dJ6_bitCount_0f7a4_34 : decode cJ6_bitCount_0f7a4 34 = .ok (.iload_n 0, 1) := by decide +kernel
theorem dJ6_bitCount_0f7a4_35 : decode cJ6_bitCount_0f7a4 35 = .ok (.iload_n 0, 1) := by decide +kernel
theorem dJ6_bitCount_0f7a4_36 : decode cJ6_bitCount_0f7a4 36 = .ok (.bipush 8, 2) := by decide +kernel
theorem dJ6_bitCount_0f7a4_38 : decode cJ6_bitCount_0f7a4 38 = .ok (.iushr, 1) := by decide +kernel
theorem dJ6_bitCount_0f7a4_39 : decode cJ6_bitCount_0f7a4 39 = .ok (.iadd, 1) := by decide +kernel
theorem dJ6_bitCount_0f7a4_40 : decode cJ6_bitCount_0f7a4 40 = .ok (.istore_n 0, 1) := by decide +kernel
theorem dJ6_bitCount_0f7a4_41 : decode cJ6_bitCount_0f7a4 41 = .ok (.iload_n 0, 1) := by decide +kernel
theorem dJ6_bitCount_0f7a4_42 : decode cJ6_bitCount_0f7a4 42 = .ok (.iload_n 0, 1) := by decide +kernel
theorem dJ6_bitCount_0f7a4_43 : decode cJ6_bitCount_0f7a4 43 = .ok (.bipush 16, 2) := by decide +kernel
theorem dJ6_bitCount_0f7a4_45 : decode cJ6_bitCount_0f7a4 45 = .ok (.iushr, 1) := by decide +kernel
theorem dJ6_bitCount_0f7a4_46 : decode cJ6_bitCount_0f7a4 46 = .ok (.iadd, 1) := by decide +kernel
theorem dJ6_bitCount_0f7a4_47 : decode cJ6_bitCount_0f7a4 47 = .ok (.istore_n 0, 1) := by decide +kernel
theorem dJ6_bitCount_0f7a4_48 : decode cJ6_bitCount_0f7a4 48 = .ok (.iload_n 0, 1) := by decide +kernel
theorem dJ6_bitCount_0f7a4_49 : decode cJ6_bitCount_0f7a4 49 = .ok (.bipush 63, 2) := by decide +kernel
theorem dJ6_bitCount_0f7a4_51 : decode cJ6_bitCount_0f7a4 51 = .ok (.iand, 1) := by decide +kernel
theorem dJ6_bitCount_0f7a4_52 : decode cJ6_bitCount_0f7a4 52 = .ok (.ireturn, 1) := by decide +kernel
theorem ys_J6_bitCount_0f7a4 : YS yJ6_bitCount_0f7a4 cJ6_bitCount_0f7a4 1 (some .int) 1 := ⟨m594, m16, m595, ⟨by decide +kernel, by decide +kernel, by decide +kernel⟩, by decide⟩
noncomputable def f_J6_bitCount_0f7a4 (x0 : Int32) (h : AH) : Option (Int32 × AH) := lt ((x0 - ((((x0 : Int32).toUInt32 >>> ((1 : Int32).toUInt32 &&& Int32.toUInt32 31)).toInt32) &&& 1431655765))) (fun v_1 => lt (((v_1 &&& 858993459) + ((((v_1 : Int32).toUInt32 >>> ((2 : Int32).toUInt32 &&& Int32.toUInt32 31)).toInt32) &&& 858993459))) (fun v_2 => lt (((v_2 + (((v_2 : Int32).toUInt32 >>> ((4 : Int32).toUInt32 &&& Int32.toUInt32 31)).toInt32)) &&& 252645135)) (fun v_3 => lt ((v_3 + (((v_3 : Int32).toUInt32 >>> ((8 : Int32).toUInt32 &&& Int32.toUInt32 31)).toInt32))) (fun v_4 => lt ((v_4 + (((v_4 : Int32).toUInt32 >>> ((16 : Int32).toUInt32 &&& Int32.toUInt32 31)).toInt32))) (fun v_5 => some ((v_5 &&& 63), h))))))
set_option maxRecDepth 20000 in
set_option maxHeartbeats 4000000 in
theorem ct_J6_bitCount_0f7a4 (l : Launch) (g : GC) (x0 : Int32) : Ct l yJ6_bitCount_0f7a4 cJ6_bitCount_0f7a4 1 (some .int) 1 [.int x0] g mkI (fun h => f_J6_bitCount_0f7a4 x0 h) := by
  refine Ct.of (by decide +kernel) (Nat.le_of_ble_eq_true rfl) (fun z A h _ F => ?_)
  show Snd z 1 g A (QF z g A mkI) 0 [(0, .int x0)] [] h (f_J6_bitCount_0f7a4 x0 h)
  unfold f_J6_bitCount_0f7a4
  refine s_iload_n F dJ6_bitCount_0f7a4_0 rfl 0 rfl ?_
  refine s_iload_n F dJ6_bitCount_0f7a4_1 rfl 0 rfl ?_
  refine s_iconst F (v := 1) dJ6_bitCount_0f7a4_2 (by decide) ?_
  refine s_iushr F dJ6_bitCount_0f7a4_3 ?_
  refine s_ldcw F (v := 1431655765) dJ6_bitCount_0f7a4_4 m596 ?_
  refine s_iand F dJ6_bitCount_0f7a4_7 ?_
  refine s_isub F dJ6_bitCount_0f7a4_8 ?_
  refine s_leti (fun v_1 => ?_)
  refine s_istore_n F (lv' := [(0, .int v_1)]) dJ6_bitCount_0f7a4_9 rfl (by decide) rfl ?_
  refine s_iload_n F dJ6_bitCount_0f7a4_10 rfl 0 rfl ?_
  refine s_ldcw F (v := 858993459) dJ6_bitCount_0f7a4_11 m597 ?_
  refine s_iand F dJ6_bitCount_0f7a4_14 ?_
  refine s_iload_n F dJ6_bitCount_0f7a4_15 rfl 0 rfl ?_
  refine s_iconst F (v := 2) dJ6_bitCount_0f7a4_16 (by decide) ?_
  refine s_iushr F dJ6_bitCount_0f7a4_17 ?_
  refine s_ldcw F (v := 858993459) dJ6_bitCount_0f7a4_18 m597 ?_
  refine s_iand F dJ6_bitCount_0f7a4_21 ?_
  refine s_iadd F dJ6_bitCount_0f7a4_22 ?_
  refine s_leti (fun v_2 => ?_)
  refine s_istore_n F (lv' := [(0, .int v_2)]) dJ6_bitCount_0f7a4_23 rfl (by decide) rfl ?_
  refine s_iload_n F dJ6_bitCount_0f7a4_24 rfl 0 rfl ?_
  refine s_iload_n F dJ6_bitCount_0f7a4_25 rfl 0 rfl ?_
  refine s_iconst F (v := 4) dJ6_bitCount_0f7a4_26 (by decide) ?_
  refine s_iushr F dJ6_bitCount_0f7a4_27 ?_
  refine s_iadd F dJ6_bitCount_0f7a4_28 ?_
  refine s_ldcw F (v := 252645135) dJ6_bitCount_0f7a4_29 m598 ?_
  refine s_iand F dJ6_bitCount_0f7a4_32 ?_
  refine s_leti (fun v_3 => ?_)
  refine s_istore_n F (lv' := [(0, .int v_3)]) dJ6_bitCount_0f7a4_33 rfl (by decide) rfl ?_
  refine s_iload_n F dJ6_bitCount_0f7a4_34 rfl 0 rfl ?_
  refine s_iload_n F dJ6_bitCount_0f7a4_35 rfl 0 rfl ?_
  refine s_bipush F (v := 8) dJ6_bitCount_0f7a4_36 (by decide) ?_
  refine s_iushr F dJ6_bitCount_0f7a4_38 ?_
  refine s_iadd F dJ6_bitCount_0f7a4_39 ?_
  refine s_leti (fun v_4 => ?_)
  refine s_istore_n F (lv' := [(0, .int v_4)]) dJ6_bitCount_0f7a4_40 rfl (by decide) rfl ?_
  refine s_iload_n F dJ6_bitCount_0f7a4_41 rfl 0 rfl ?_
  refine s_iload_n F dJ6_bitCount_0f7a4_42 rfl 0 rfl ?_
  refine s_bipush F (v := 16) dJ6_bitCount_0f7a4_43 (by decide) ?_
  refine s_iushr F dJ6_bitCount_0f7a4_45 ?_
  refine s_iadd F dJ6_bitCount_0f7a4_46 ?_
  refine s_leti (fun v_5 => ?_)
  refine s_istore_n F (lv' := [(0, .int v_5)]) dJ6_bitCount_0f7a4_47 rfl (by decide) rfl ?_
  refine s_iload_n F dJ6_bitCount_0f7a4_48 rfl 0 rfl ?_
  refine s_bipush F (v := 63) dJ6_bitCount_0f7a4_49 (by decide) ?_
  refine s_iand F dJ6_bitCount_0f7a4_51 ?_
  exact s_iret F dJ6_bitCount_0f7a4_52
theorem dX5_isRow_0 : decode cX5_isRow 0 = .ok (.iload_n 0, 1) := by decide +kernel
theorem dX5_isRow_1 : decode cX5_isRow 1 = .ok (.ifCond .lt 13, 3) := by decide +kernel
theorem dX5_isRow_4 : decode cX5_isRow 4 = .ok (.iload_n 0, 1) := by decide +kernel
theorem dX5_isRow_5 : decode cX5_isRow 5 = .ok (.bipush 8, 2) := by decide +kernel
theorem dX5_isRow_7 : decode cX5_isRow 7 = .ok (.if_icmp .ge 7, 3) := by decide +kernel
theorem dX5_isRow_10 : decode cX5_isRow 10 = .ok (.iconst 1, 1) := by decide +kernel
theorem dX5_isRow_11 : decode cX5_isRow 11 = .ok (.goto 4, 3) := by decide +kernel
theorem dX5_isRow_14 : decode cX5_isRow 14 = .ok (.iconst 0, 1) := by decide +kernel
theorem dX5_isRow_15 : decode cX5_isRow 15 = .ok (.ireturn, 1) := by decide +kernel
theorem ys_X5_isRow : YS yX5_isRow cX5_isRow 1 (some .boolean) 1 := ⟨m278, m2, m279, ⟨by decide +kernel, by decide +kernel, by decide +kernel⟩, by decide⟩
noncomputable def f_X5_isRow (x0 : Int32) (h : AH) : Option (Int32 × AH) := if x0 < 0 then (some (0, h)) else (if (8 : Int32) ≤ x0 then (some (0, h)) else (some (1, h)))
set_option maxRecDepth 20000 in
set_option maxHeartbeats 4000000 in
theorem ct_X5_isRow (l : Launch) (g : GC) (x0 : Int32) : Ct l yX5_isRow cX5_isRow 1 (some .boolean) 1 [.int x0] g mkI (fun h => f_X5_isRow x0 h) := by
  refine Ct.of (by decide +kernel) (Nat.le_of_ble_eq_true rfl) (fun z A h _ F => ?_)
  show Snd z 1 g A (QF z g A mkI) 0 [(0, .int x0)] [] h (f_X5_isRow x0 h)
  unfold f_X5_isRow
  refine s_iload_n F dX5_isRow_0 rfl 0 rfl ?_
  refine s_if_lt F 14 dX5_isRow_1 (by decide) (fun _ => ?_) (fun _ => ?_)
  · refine s_iconst F (v := 0) dX5_isRow_14 (by decide) ?_
    exact s_zret1 F (by decide) dX5_isRow_15
  · refine s_iload_n F dX5_isRow_4 rfl 0 rfl ?_
    refine s_bipush F (v := 8) dX5_isRow_5 (by decide) ?_
    refine s_icmp_ge F 14 dX5_isRow_7 (by decide) (fun _ => ?_) (fun _ => ?_)
    · refine s_iconst F (v := 0) dX5_isRow_14 (by decide) ?_
      exact s_zret1 F (by decide) dX5_isRow_15
    · refine s_iconst F (v := 1) dX5_isRow_10 (by decide) ?_
      refine s_goto F 15 dX5_isRow_11 (by decide) ?_
      exact s_zret1 F (by decide) dX5_isRow_15
theorem dX5_isMissing_0 : decode cX5_isMissing 0 = .ok (.aload_n 0, 1) := by decide +kernel
theorem dX5_isMissing_1 : decode cX5_isMissing 1 = .ok (.getfield 13, 3) := by decide +kernel
theorem dX5_isMissing_4 : decode cX5_isMissing 4 = .ok (.iload_n 1, 1) := by decide +kernel
theorem dX5_isMissing_5 : decode cX5_isMissing 5 = .ok (.iaload, 1) := by decide +kernel
theorem dX5_isMissing_6 : decode cX5_isMissing 6 = .ok (.iconst (-1), 1) := by decide +kernel
theorem dX5_isMissing_7 : decode cX5_isMissing 7 = .ok (.if_icmp .ne 7, 3) := by decide +kernel
theorem dX5_isMissing_10 : decode cX5_isMissing 10 = .ok (.iconst 1, 1) := by decide +kernel
theorem dX5_isMissing_11 : decode cX5_isMissing 11 = .ok (.goto 4, 3) := by decide +kernel
theorem dX5_isMissing_14 : decode cX5_isMissing 14 = .ok (.iconst 0, 1) := by decide +kernel
theorem dX5_isMissing_15 : decode cX5_isMissing 15 = .ok (.ireturn, 1) := by decide +kernel
theorem yv_X5_isMissing : YV yX5_isMissing cX5_isMissing 2 (some .boolean) 1 := ⟨m299, m300, m2, m301, ⟨by decide +kernel, by decide +kernel, by decide +kernel⟩, by decide⟩
noncomputable def f_X5_isMissing (q : Nat) (x1 : Int32) (h : AH) : Option (Int32 × AH) := ck x1 8 (if (h (q + 2) (x1 : Int32).toNatClampNeg) = (-1) then (some (1, h)) else (some (0, h)))
set_option maxRecDepth 20000 in
set_option maxHeartbeats 4000000 in
theorem ct_X5_isMissing (l : Launch) (g : GC) {q : Nat} (hq : (gL g)[q]? = some (.inl 5)) (x1 : Int32) : Ct l yX5_isMissing cX5_isMissing 2 (some .boolean) 1 [.ref (gad g q), .int x1] g mkI (fun h => f_X5_isMissing q x1 h) := by
  refine Ct.of (by decide +kernel) (Nat.le_of_ble_eq_true rfl) (fun z A h _ F => ?_)
  show Snd z 2 g A (QF z g A mkI) 0 [(0, .ref (gad g q)), (1, .int x1)] [] h (f_X5_isMissing q x1 h)
  unfold f_X5_isMissing
  refine s_aload_n F dX5_isMissing_0 rfl 0 rfl ?_
  have hw_1 := wf_ref F.2.2.2.2.2.2.1 hq 1 2 (.inr (0, 8)) rfl
  refine s_getr F ciX5 1 2 (.inr (0, 8)) hq (by decide) rfl rfl m33 dX5_isMissing_1 ?_
  refine s_iload_n F dX5_isMissing_4 rfl 1 rfl ?_
  refine s_iald F hw_1 dX5_isMissing_5 ?_
  refine s_iconst F (v := (-1)) dX5_isMissing_6 (by decide) ?_
  refine s_icmp_ne F 14 dX5_isMissing_7 (by decide) (fun _ => ?_) (fun _ => ?_)
  · refine s_iconst F (v := 0) dX5_isMissing_14 (by decide) ?_
    exact s_zret1 F (by decide) dX5_isMissing_15
  · refine s_iconst F (v := 1) dX5_isMissing_10 (by decide) ?_
    refine s_goto F 15 dX5_isMissing_11 (by decide) ?_
    exact s_zret1 F (by decide) dX5_isMissing_15
theorem dX5_laneOf_0 : decode cX5_laneOf 0 = .ok (.aload_n 0, 1) := by decide +kernel
theorem dX5_laneOf_1 : decode cX5_laneOf 1 = .ok (.getfield 9, 3) := by decide +kernel
theorem dX5_laneOf_4 : decode cX5_laneOf 4 = .ok (.iload_n 1, 1) := by decide +kernel
theorem dX5_laneOf_5 : decode cX5_laneOf 5 = .ok (.iaload, 1) := by decide +kernel
theorem dX5_laneOf_6 : decode cX5_laneOf 6 = .ok (.ireturn, 1) := by decide +kernel
theorem yv_X5_laneOf : YV yX5_laneOf cX5_laneOf 2 (some .int) 1 := ⟨m318, m319, m2, m320, ⟨by decide +kernel, by decide +kernel, by decide +kernel⟩, by decide⟩
noncomputable def f_X5_laneOf (q : Nat) (x1 : Int32) (h : AH) : Option (Int32 × AH) := ck x1 8 (some (h (q + 1) (x1 : Int32).toNatClampNeg, h))
set_option maxRecDepth 20000 in
set_option maxHeartbeats 4000000 in
theorem ct_X5_laneOf (l : Launch) (g : GC) {q : Nat} (hq : (gL g)[q]? = some (.inl 5)) (x1 : Int32) : Ct l yX5_laneOf cX5_laneOf 2 (some .int) 1 [.ref (gad g q), .int x1] g mkI (fun h => f_X5_laneOf q x1 h) := by
  refine Ct.of (by decide +kernel) (Nat.le_of_ble_eq_true rfl) (fun z A h _ F => ?_)
  show Snd z 2 g A (QF z g A mkI) 0 [(0, .ref (gad g q)), (1, .int x1)] [] h (f_X5_laneOf q x1 h)
  unfold f_X5_laneOf
  refine s_aload_n F dX5_laneOf_0 rfl 0 rfl ?_
  have hw_1 := wf_ref F.2.2.2.2.2.2.1 hq 0 1 (.inr (0, 8)) rfl
  refine s_getr F ciX5 0 1 (.inr (0, 8)) hq (by decide) rfl rfl m32 dX5_laneOf_1 ?_
  refine s_iload_n F dX5_laneOf_4 rfl 1 rfl ?_
  refine s_iald F hw_1 dX5_laneOf_5 ?_
  exact s_iret F dX5_laneOf_6
theorem dX5_hasPlaces_0 : decode cX5_hasPlaces 0 = .ok (.iload_n 2, 1) := by decide +kernel
theorem dX5_hasPlaces_1 : decode cX5_hasPlaces 1 = .ok (.ifCond .lt 33, 3) := by decide +kernel
theorem dX5_hasPlaces_4 : decode cX5_hasPlaces 4 = .ok (.iload_n 3, 1) := by decide +kernel
theorem dX5_hasPlaces_5 : decode cX5_hasPlaces 5 = .ok (.ifCond .lt 29, 3) := by decide +kernel
theorem dX5_hasPlaces_8 : decode cX5_hasPlaces 8 = .ok (.iload_n 2, 1) := by decide +kernel
theorem dX5_hasPlaces_9 : decode cX5_hasPlaces 9 = .ok (.aload_n 0, 1) := by decide +kernel
theorem dX5_hasPlaces_10 : decode cX5_hasPlaces 10 = .ok (.getfield 13, 3) := by decide +kernel
theorem dX5_hasPlaces_13 : decode cX5_hasPlaces 13 = .ok (.iload_n 1, 1) := by decide +kernel
theorem dX5_hasPlaces_14 : decode cX5_hasPlaces 14 = .ok (.iaload, 1) := by decide +kernel
theorem dX5_hasPlaces_15 : decode cX5_hasPlaces 15 = .ok (.if_icmp .gt 19, 3) := by decide +kernel
theorem dX5_hasPlaces_18 : decode cX5_hasPlaces 18 = .ok (.iload_n 3, 1) := by decide +kernel
theorem dX5_hasPlaces_19 : decode cX5_hasPlaces 19 = .ok (.aload_n 0, 1) := by decide +kernel
theorem dX5_hasPlaces_20 : decode cX5_hasPlaces 20 = .ok (.getfield 13, 3) := by decide +kernel
theorem dX5_hasPlaces_23 : decode cX5_hasPlaces 23 = .ok (.iload_n 1, 1) := by decide +kernel
theorem dX5_hasPlaces_24 : decode cX5_hasPlaces 24 = .ok (.iaload, 1) := by decide +kernel
theorem dX5_hasPlaces_25 : decode cX5_hasPlaces 25 = .ok (.iload_n 2, 1) := by decide +kernel
theorem dX5_hasPlaces_26 : decode cX5_hasPlaces 26 = .ok (.isub, 1) := by decide +kernel
theorem dX5_hasPlaces_27 : decode cX5_hasPlaces 27 = .ok (.if_icmp .gt 7, 3) := by decide +kernel
theorem dX5_hasPlaces_30 : decode cX5_hasPlaces 30 = .ok (.iconst 1, 1) := by decide +kernel
theorem dX5_hasPlaces_31 : decode cX5_hasPlaces 31 = .ok (.goto 4, 3) := by decide +kernel
theorem dX5_hasPlaces_34 : decode cX5_hasPlaces 34 = .ok (.iconst 0, 1) := by decide +kernel
theorem dX5_hasPlaces_35 : decode cX5_hasPlaces 35 = .ok (.ireturn, 1) := by decide +kernel
theorem yv_X5_hasPlaces : YV yX5_hasPlaces cX5_hasPlaces 4 (some .boolean) 3 := ⟨m303, m304, m2, m305, ⟨by decide +kernel, by decide +kernel, by decide +kernel⟩, by decide⟩
noncomputable def f_X5_hasPlaces (q : Nat) (x1 : Int32) (x2 : Int32) (x3 : Int32) (h : AH) : Option (Int32 × AH) := if x2 < 0 then (some (0, h)) else (if x3 < 0 then (some (0, h)) else (ck x1 8 (if (h (q + 2) (x1 : Int32).toNatClampNeg) < x2 then (some (0, h)) else (ck x1 8 (if ((h (q + 2) (x1 : Int32).toNatClampNeg) - x2) < x3 then (some (0, h)) else (some (1, h)))))))
set_option maxRecDepth 20000 in
set_option maxHeartbeats 4000000 in
theorem ct_X5_hasPlaces (l : Launch) (g : GC) {q : Nat} (hq : (gL g)[q]? = some (.inl 5)) (x1 : Int32) (x2 : Int32) (x3 : Int32) : Ct l yX5_hasPlaces cX5_hasPlaces 4 (some .boolean) 1 [.ref (gad g q), .int x1, .int x2, .int x3] g mkI (fun h => f_X5_hasPlaces q x1 x2 x3 h) := by
  refine Ct.of (by decide +kernel) (Nat.le_of_ble_eq_true rfl) (fun z A h _ F => ?_)
  show Snd z 4 g A (QF z g A mkI) 0 [(0, .ref (gad g q)), (1, .int x1), (2, .int x2), (3, .int x3)] [] h (f_X5_hasPlaces q x1 x2 x3 h)
  unfold f_X5_hasPlaces
  refine s_iload_n F dX5_hasPlaces_0 rfl 2 rfl ?_
  refine s_if_lt F 34 dX5_hasPlaces_1 (by decide) (fun _ => ?_) (fun _ => ?_)
  · refine s_iconst F (v := 0) dX5_hasPlaces_34 (by decide) ?_
    exact s_zret1 F (by decide) dX5_hasPlaces_35
  · refine s_iload_n F dX5_hasPlaces_4 rfl 3 rfl ?_
    refine s_if_lt F 34 dX5_hasPlaces_5 (by decide) (fun _ => ?_) (fun _ => ?_)
    · refine s_iconst F (v := 0) dX5_hasPlaces_34 (by decide) ?_
      exact s_zret1 F (by decide) dX5_hasPlaces_35
    · refine s_iload_n F dX5_hasPlaces_8 rfl 2 rfl ?_
      refine s_aload_n F dX5_hasPlaces_9 rfl 0 rfl ?_
      have hw_1 := wf_ref F.2.2.2.2.2.2.1 hq 1 2 (.inr (0, 8)) rfl
      refine s_getr F ciX5 1 2 (.inr (0, 8)) hq (by decide) rfl rfl m33 dX5_hasPlaces_10 ?_
      refine s_iload_n F dX5_hasPlaces_13 rfl 1 rfl ?_
      refine s_iald F hw_1 dX5_hasPlaces_14 ?_
      refine s_icmp_gt F 34 dX5_hasPlaces_15 (by decide) (fun _ => ?_) (fun _ => ?_)
      · refine s_iconst F (v := 0) dX5_hasPlaces_34 (by decide) ?_
        exact s_zret1 F (by decide) dX5_hasPlaces_35
      · refine s_iload_n F dX5_hasPlaces_18 rfl 3 rfl ?_
        refine s_aload_n F dX5_hasPlaces_19 rfl 0 rfl ?_
        have hw_2 := wf_ref F.2.2.2.2.2.2.1 hq 1 2 (.inr (0, 8)) rfl
        refine s_getr F ciX5 1 2 (.inr (0, 8)) hq (by decide) rfl rfl m33 dX5_hasPlaces_20 ?_
        refine s_iload_n F dX5_hasPlaces_23 rfl 1 rfl ?_
        refine s_iald F hw_2 dX5_hasPlaces_24 ?_
        refine s_iload_n F dX5_hasPlaces_25 rfl 2 rfl ?_
        refine s_isub F dX5_hasPlaces_26 ?_
        refine s_icmp_gt F 34 dX5_hasPlaces_27 (by decide) (fun _ => ?_) (fun _ => ?_)
        · refine s_iconst F (v := 0) dX5_hasPlaces_34 (by decide) ?_
          exact s_zret1 F (by decide) dX5_hasPlaces_35
        · refine s_iconst F (v := 1) dX5_hasPlaces_30 (by decide) ?_
          refine s_goto F 35 dX5_hasPlaces_31 (by decide) ?_
          exact s_zret1 F (by decide) dX5_hasPlaces_35
theorem dX5_begin_0 : decode cX5_begin 0 = .ok (.aload_n 0, 1) := by decide +kernel
theorem dX5_begin_1 : decode cX5_begin 1 = .ok (.getfield 9, 3) := by decide +kernel
theorem dX5_begin_4 : decode cX5_begin 4 = .ok (.iload_n 1, 1) := by decide +kernel
theorem dX5_begin_5 : decode cX5_begin 5 = .ok (.iload_n 2, 1) := by decide +kernel
theorem dX5_begin_6 : decode cX5_begin 6 = .ok (.iastore, 1) := by decide +kernel
theorem dX5_begin_7 : decode cX5_begin 7 = .ok (.aload_n 0, 1) := by decide +kernel
theorem dX5_begin_8 : decode cX5_begin 8 = .ok (.getfield 13, 3) := by decide +kernel
theorem dX5_begin_11 : decode cX5_begin 11 = .ok (.iload_n 1, 1) := by decide +kernel
theorem dX5_begin_12 : decode cX5_begin 12 = .ok (.iload_n 3, 1) := by decide +kernel
theorem dX5_begin_13 : decode cX5_begin 13 = .ok (.iastore, 1) := by decide +kernel
theorem dX5_begin_14 : decode cX5_begin 14 = .ok (.iconst 0, 1) := by decide +kernel
theorem dX5_begin_15 : decode cX5_begin 15 = .ok (.istore 4, 2) := by decide +kernel
theorem dX5_begin_17 : decode cX5_begin 17 = .ok (.iload 4, 2) := by decide +kernel
theorem dX5_begin_19 : decode cX5_begin 19 = .ok (.iload_n 3, 1) := by decide +kernel
theorem dX5_begin_20 : decode cX5_begin 20 = .ok (.if_icmp .ge 22, 3) := by decide +kernel
theorem dX5_begin_23 : decode cX5_begin 23 = .ok (.aload_n 0, 1) := by decide +kernel
theorem dX5_begin_24 : decode cX5_begin 24 = .ok (.getfield 16, 3) := by decide +kernel
theorem dX5_begin_27 : decode cX5_begin 27 = .ok (.iload_n 1, 1) := by decide +kernel
theorem dX5_begin_28 : decode cX5_begin 28 = .ok (.bipush 40, 2) := by decide +kernel
theorem dX5_begin_30 : decode cX5_begin 30 = .ok (.imul, 1) := by decide +kernel
theorem dX5_begin_31 : decode cX5_begin 31 = .ok (.iload 4, 2) := by decide +kernel
theorem dX5_begin_33 : decode cX5_begin 33 = .ok (.iadd, 1) := by decide +kernel
theorem dX5_begin_34 : decode cX5_begin 34 = .ok (.iconst 0, 1) := by decide +kernel
theorem dX5_begin_35 : decode cX5_begin 35 = .ok (.iastore, 1) := by decide +kernel
theorem dX5_begin_36 : decode cX5_begin 36 = .ok (.iinc 4 1, 3) := by decide +kernel
theorem dX5_begin_39 : decode cX5_begin 39 = .ok (.goto (-22), 3) := by decide +kernel
theorem dX5_begin_42 : decode cX5_begin 42 = .ok (.return_, 1) := by decide +kernel
theorem yv_X5_begin : YV yX5_begin cX5_begin 5 none 3 := ⟨m287, m288, m2, m289, ⟨by decide +kernel, by decide +kernel, by decide +kernel⟩, by decide⟩
noncomputable def f_X5_begin_17 (q : Nat) : Nat → Int32 → Int32 → Int32 → AH → Option (Unit × AH)
  | 0, _, _, _, _ => none
  | n + 1, x1, x3, x4, h => if x3 ≤ x4 then (some ((), h)) else (lt (((x1 * 40) + x4)) (fun v_2 => ck v_2 320 (lt (hset h (q + 3) (v_2 : Int32).toNatClampNeg 0) (fun h_3 => lt (x4 + 1) (fun v_4 => (f_X5_begin_17 q n) x1 x3 v_4 h_3)))))
set_option maxRecDepth 20000 in
set_option maxHeartbeats 4000000 in
theorem t_X5_begin_17 {z : MC} {g : GC} {A : Nat → Prop} (F : Fx z cX5_begin 5 RX5 none 1 g A) {q : Nat} (hq : (gL g)[q]? = some (.inl 5)) : ∀ (n : Nat) (x1 : Int32) (x3 : Int32) (x4 : Int32) (h : AH), Snd z 5 g A (QF z g A mkU) 17 [(0, .ref (gad g q)), (1, .int x1), (3, .int x3), (4, .int x4)] [] h (f_X5_begin_17 q n x1 x3 x4 h) := by
  intro n
  induction n with
  | zero => intros; exact s_none
  | succ n ih =>
    intro x1 x3 x4 h
    unfold f_X5_begin_17
    refine s_iload F dX5_begin_17 3 rfl ?_
    refine s_iload_n F dX5_begin_19 rfl 2 rfl ?_
    refine s_icmp_ge F 42 dX5_begin_20 (by decide) (fun _ => ?_) (fun _ => ?_)
    · exact s_vret F dX5_begin_42
    · refine s_aload_n F dX5_begin_23 rfl 0 rfl ?_
      have hw_1 := wf_ref F.2.2.2.2.2.2.1 hq 2 3 (.inr (0, 320)) rfl
      refine s_getr F ciX5 2 3 (.inr (0, 320)) hq (by decide) rfl rfl m34 dX5_begin_24 ?_
      refine s_iload_n F dX5_begin_27 rfl 1 rfl ?_
      refine s_bipush F (v := 40) dX5_begin_28 (by decide) ?_
      refine s_imul F dX5_begin_30 ?_
      refine s_iload F dX5_begin_31 3 rfl ?_
      refine s_iadd F dX5_begin_33 ?_
      refine s_iconst F (v := 0) dX5_begin_34 (by decide) ?_
      refine s_leti2 (fun v_2 => ?_)
      refine s_iast F hw_1 dX5_begin_35 ?_
      refine s_letH (fun h_3 => ?_)
      refine s_iincv F dX5_begin_36 3 rfl (by decide) (c := 1) (by decide) (fun v_4 => ?_)
      refine s_lv (lv' := [(4, .int v_4), (0, .ref (gad g q)), (1, .int x1), (3, .int x3)]) rfl ?_
      refine s_goto F 17 dX5_begin_39 (by decide) ?_
      exact s_sub [1, 2, 3, 0] rfl (ih x1 x3 v_4 h_3)
noncomputable def f_X5_begin (q : Nat) (x1 : Int32) (x2 : Int32) (x3 : Int32) (h : AH) : Option (Unit × AH) := ck x1 8 (lt (hset h (q + 1) (x1 : Int32).toNatClampNeg x2) (fun h_2 => ck x1 8 (lt (hset h_2 (q + 2) (x1 : Int32).toNatClampNeg x3) (fun h_4 => f_X5_begin_17 q fu x1 x3 0 h_4))))
set_option maxRecDepth 20000 in
set_option maxHeartbeats 4000000 in
theorem ct_X5_begin (l : Launch) (g : GC) {q : Nat} (hq : (gL g)[q]? = some (.inl 5)) (x1 : Int32) (x2 : Int32) (x3 : Int32) : Ct l yX5_begin cX5_begin 5 none 1 [.ref (gad g q), .int x1, .int x2, .int x3] g mkU (fun h => f_X5_begin q x1 x2 x3 h) := by
  refine Ct.of (by decide +kernel) (Nat.le_of_ble_eq_true rfl) (fun z A h _ F => ?_)
  show Snd z 5 g A (QF z g A mkU) 0 [(0, .ref (gad g q)), (1, .int x1), (2, .int x2), (3, .int x3)] [] h (f_X5_begin q x1 x2 x3 h)
  unfold f_X5_begin
  refine s_aload_n F dX5_begin_0 rfl 0 rfl ?_
  have hw_1 := wf_ref F.2.2.2.2.2.2.1 hq 0 1 (.inr (0, 8)) rfl
  refine s_getr F ciX5 0 1 (.inr (0, 8)) hq (by decide) rfl rfl m32 dX5_begin_1 ?_
  refine s_iload_n F dX5_begin_4 rfl 1 rfl ?_
  refine s_iload_n F dX5_begin_5 rfl 2 rfl ?_
  refine s_iast F hw_1 dX5_begin_6 ?_
  refine s_letH (fun h_2 => ?_)
  refine s_aload_n F dX5_begin_7 rfl 0 rfl ?_
  have hw_3 := wf_ref F.2.2.2.2.2.2.1 hq 1 2 (.inr (0, 8)) rfl
  refine s_getr F ciX5 1 2 (.inr (0, 8)) hq (by decide) rfl rfl m33 dX5_begin_8 ?_
  refine s_iload_n F dX5_begin_11 rfl 1 rfl ?_
  refine s_iload_n F dX5_begin_12 rfl 3 rfl ?_
  refine s_iast F hw_3 dX5_begin_13 ?_
  refine s_letH (fun h_4 => ?_)
  refine s_iconst F (v := 0) dX5_begin_14 (by decide) ?_
  refine s_istore F (lv' := [(4, .int 0), (0, .ref (gad g q)), (1, .int x1), (2, .int x2), (3, .int x3)]) dX5_begin_15 (by decide) rfl ?_
  exact s_sub [1, 2, 4, 0] rfl (t_X5_begin_17 F hq fu x1 x3 0 h_4)
theorem dX5_narrowed_0 : decode cX5_narrowed 0 = .ok (.iload_n 0, 1) := by decide +kernel
theorem dX5_narrowed_1 : decode cX5_narrowed 1 = .ok (.ifCond .ne 6, 3) := by decide +kernel
theorem dX5_narrowed_4 : decode cX5_narrowed 4 = .ok (.iload_n 1, 1) := by decide +kernel
theorem dX5_narrowed_5 : decode cX5_narrowed 5 = .ok (.i2b, 1) := by decide +kernel
theorem dX5_narrowed_6 : decode cX5_narrowed 6 = .ok (.ireturn, 1) := by decide +kernel
theorem dX5_narrowed_7 : decode cX5_narrowed 7 = .ok (.iload_n 0, 1) := by decide +kernel
theorem dX5_narrowed_8 : decode cX5_narrowed 8 = .ok (.iconst 1, 1) := by decide +kernel
theorem dX5_narrowed_9 : decode cX5_narrowed 9 = .ok (.if_icmp .ne 8, 3) := by decide +kernel
theorem dX5_narrowed_12 : decode cX5_narrowed 12 = .ok (.iload_n 1, 1) := by decide +kernel
theorem dX5_narrowed_13 : decode cX5_narrowed 13 = .ok (.i2s, 1) := by decide +kernel
theorem dX5_narrowed_14 : decode cX5_narrowed 14 = .ok (.goto 4, 3) := by decide +kernel
theorem dX5_narrowed_17 : decode cX5_narrowed 17 = .ok (.iload_n 1, 1) := by decide +kernel
theorem dX5_narrowed_18 : decode cX5_narrowed 18 = .ok (.ireturn, 1) := by decide +kernel
theorem ys_X5_narrowed : YS yX5_narrowed cX5_narrowed 2 (some .int) 2 := ⟨m311, m2, m312, ⟨by decide +kernel, by decide +kernel, by decide +kernel⟩, by decide⟩
noncomputable def f_X5_narrowed (x0 : Int32) (x1 : Int32) (h : AH) : Option (Int32 × AH) := if x0 = 0 then (some ((x1 : Int32).toInt8.toInt32, h)) else (if x0 = 1 then (some ((x1 : Int32).toInt16.toInt32, h)) else (some (x1, h)))
set_option maxRecDepth 20000 in
set_option maxHeartbeats 4000000 in
theorem ct_X5_narrowed (l : Launch) (g : GC) (x0 : Int32) (x1 : Int32) : Ct l yX5_narrowed cX5_narrowed 2 (some .int) 1 [.int x0, .int x1] g mkI (fun h => f_X5_narrowed x0 x1 h) := by
  refine Ct.of (by decide +kernel) (Nat.le_of_ble_eq_true rfl) (fun z A h _ F => ?_)
  show Snd z 2 g A (QF z g A mkI) 0 [(0, .int x0), (1, .int x1)] [] h (f_X5_narrowed x0 x1 h)
  unfold f_X5_narrowed
  refine s_iload_n F dX5_narrowed_0 rfl 0 rfl ?_
  refine s_if_ne F 7 dX5_narrowed_1 (by decide) (fun _ => ?_) (fun _ => ?_)
  · refine s_iload_n F dX5_narrowed_7 rfl 0 rfl ?_
    refine s_iconst F (v := 1) dX5_narrowed_8 (by decide) ?_
    refine s_icmp_ne F 17 dX5_narrowed_9 (by decide) (fun _ => ?_) (fun _ => ?_)
    · refine s_iload_n F dX5_narrowed_17 rfl 1 rfl ?_
      exact s_iret F dX5_narrowed_18
    · refine s_iload_n F dX5_narrowed_12 rfl 1 rfl ?_
      refine s_i2s F dX5_narrowed_13 ?_
      refine s_goto F 18 dX5_narrowed_14 (by decide) ?_
      exact s_iret F dX5_narrowed_18
  · refine s_iload_n F dX5_narrowed_4 rfl 1 rfl ?_
    refine s_i2b F dX5_narrowed_5 ?_
    exact s_iret F dX5_narrowed_6
theorem dX5_put_0 : decode cX5_put 0 = .ok (.aload_n 0, 1) := by decide +kernel
theorem dX5_put_1 : decode cX5_put 1 = .ok (.getfield 16, 3) := by decide +kernel
theorem dX5_put_4 : decode cX5_put 4 = .ok (.iload_n 1, 1) := by decide +kernel
theorem dX5_put_5 : decode cX5_put 5 = .ok (.bipush 40, 2) := by decide +kernel
theorem dX5_put_7 : decode cX5_put 7 = .ok (.imul, 1) := by decide +kernel
theorem dX5_put_8 : decode cX5_put 8 = .ok (.iload_n 2, 1) := by decide +kernel
theorem dX5_put_9 : decode cX5_put 9 = .ok (.iadd, 1) := by decide +kernel
theorem dX5_put_10 : decode cX5_put 10 = .ok (.aload_n 0, 1) := by decide +kernel
theorem dX5_put_11 : decode cX5_put 11 = .ok (.getfield 9, 3) := by decide +kernel
theorem dX5_put_14 : decode cX5_put 14 = .ok (.iload_n 1, 1) := by decide +kernel
theorem dX5_put_15 : decode cX5_put 15 = .ok (.iaload, 1) := by decide +kernel
theorem dX5_put_16 : decode cX5_put 16 = .ok (.iload_n 3, 1) := by decide +kernel
theorem dX5_put_17 : decode cX5_put 17 = .ok (.invokestatic 19, 3) := by decide +kernel
theorem dX5_put_20 : decode cX5_put 20 = .ok (.iastore, 1) := by decide +kernel
theorem dX5_put_21 : decode cX5_put 21 = .ok (.aload_n 0, 1) := by decide +kernel
theorem dX5_put_22 : decode cX5_put 22 = .ok (.getfield 16, 3) := by decide +kernel
theorem dX5_put_25 : decode cX5_put 25 = .ok (.iload_n 1, 1) := by decide +kernel
theorem dX5_put_26 : decode cX5_put 26 = .ok (.bipush 40, 2) := by decide +kernel
theorem dX5_put_28 : decode cX5_put 28 = .ok (.imul, 1) := by decide +kernel
theorem dX5_put_29 : decode cX5_put 29 = .ok (.iload_n 2, 1) := by decide +kernel
theorem dX5_put_30 : decode cX5_put 30 = .ok (.iadd, 1) := by decide +kernel
theorem dX5_put_31 : decode cX5_put 31 = .ok (.iaload, 1) := by decide +kernel
theorem dX5_put_32 : decode cX5_put 32 = .ok (.ireturn, 1) := by decide +kernel
theorem yv_X5_put : YV yX5_put cX5_put 4 (some .int) 3 := ⟨m307, m308, m2, m309, ⟨by decide +kernel, by decide +kernel, by decide +kernel⟩, by decide⟩
noncomputable def f_X5_put (q : Nat) (x1 : Int32) (x2 : Int32) (x3 : Int32) (h : AH) : Option (Int32 × AH) := ck x1 8 (bd (f_X5_narrowed (h (q + 1) (x1 : Int32).toNatClampNeg) x3 h) (fun v_4 h_3 => lt (((x1 * 40) + x2)) (fun v_5 => ck v_5 320 (lt (hset h_3 (q + 3) (v_5 : Int32).toNatClampNeg v_4) (fun h_6 => lt (((x1 * 40) + x2)) (fun v_8 => ck v_8 320 (some (h_6 (q + 3) (v_8 : Int32).toNatClampNeg, h_6))))))))
set_option maxRecDepth 20000 in
set_option maxHeartbeats 4000000 in
theorem ct_X5_put (l : Launch) (g : GC) {q : Nat} (hq : (gL g)[q]? = some (.inl 5)) (x1 : Int32) (x2 : Int32) (x3 : Int32) : Ct l yX5_put cX5_put 4 (some .int) 2 [.ref (gad g q), .int x1, .int x2, .int x3] g mkI (fun h => f_X5_put q x1 x2 x3 h) := by
  refine Ct.of (by decide +kernel) (Nat.le_of_ble_eq_true rfl) (fun z A h _ F => ?_)
  show Snd z 4 g A (QF z g A mkI) 0 [(0, .ref (gad g q)), (1, .int x1), (2, .int x2), (3, .int x3)] [] h (f_X5_put q x1 x2 x3 h)
  unfold f_X5_put
  refine s_aload_n F dX5_put_0 rfl 0 rfl ?_
  have hw_1 := wf_ref F.2.2.2.2.2.2.1 hq 2 3 (.inr (0, 320)) rfl
  refine s_getr F ciX5 2 3 (.inr (0, 320)) hq (by decide) rfl rfl m34 dX5_put_1 ?_
  refine s_iload_n F dX5_put_4 rfl 1 rfl ?_
  refine s_bipush F (v := 40) dX5_put_5 (by decide) ?_
  refine s_imul F dX5_put_7 ?_
  refine s_iload_n F dX5_put_8 rfl 2 rfl ?_
  refine s_iadd F dX5_put_9 ?_
  refine s_aload_n F dX5_put_10 rfl 0 rfl ?_
  have hw_2 := wf_ref F.2.2.2.2.2.2.1 hq 0 1 (.inr (0, 8)) rfl
  refine s_getr F ciX5 0 1 (.inr (0, 8)) hq (by decide) rfl rfl m32 dX5_put_11 ?_
  refine s_iload_n F dX5_put_14 rfl 1 rfl ?_
  refine s_iald F hw_2 dX5_put_15 ?_
  refine s_iload_n F dX5_put_16 rfl 3 rfl ?_
  refine s_callSi (f := fun hh => f_X5_narrowed (h (q + 1) (x1 : Int32).toNatClampNeg) x3 hh) (As := [.int (h (q + 1) (x1 : Int32).toNatClampNeg), .int x3]) F ys_X5_narrowed (ct_X5_narrowed z.2.1 g (h (q + 1) (x1 : Int32).toNatClampNeg) x3) (by decide) m310 rfl rfl (Nat.le_of_ble_eq_true rfl) dX5_put_17 (fun v_4 h_3 e_v_4 => ?_)
  refine s_leti2 (fun v_5 => ?_)
  refine s_iast F hw_1 dX5_put_20 ?_
  refine s_letH (fun h_6 => ?_)
  refine s_aload_n F dX5_put_21 rfl 0 rfl ?_
  have hw_7 := wf_ref F.2.2.2.2.2.2.1 hq 2 3 (.inr (0, 320)) rfl
  refine s_getr F ciX5 2 3 (.inr (0, 320)) hq (by decide) rfl rfl m34 dX5_put_22 ?_
  refine s_iload_n F dX5_put_25 rfl 1 rfl ?_
  refine s_bipush F (v := 40) dX5_put_26 (by decide) ?_
  refine s_imul F dX5_put_28 ?_
  refine s_iload_n F dX5_put_29 rfl 2 rfl ?_
  refine s_iadd F dX5_put_30 ?_
  refine s_leti (fun v_8 => ?_)
  refine s_iald F hw_7 dX5_put_31 ?_
  exact s_iret F dX5_put_32
theorem dX5_itemAt_0 : decode cX5_itemAt 0 = .ok (.aload_n 0, 1) := by decide +kernel
theorem dX5_itemAt_1 : decode cX5_itemAt 1 = .ok (.getfield 16, 3) := by decide +kernel
theorem dX5_itemAt_4 : decode cX5_itemAt 4 = .ok (.iload_n 1, 1) := by decide +kernel
theorem dX5_itemAt_5 : decode cX5_itemAt 5 = .ok (.bipush 40, 2) := by decide +kernel
theorem dX5_itemAt_7 : decode cX5_itemAt 7 = .ok (.imul, 1) := by decide +kernel
theorem dX5_itemAt_8 : decode cX5_itemAt 8 = .ok (.iload_n 2, 1) := by decide +kernel
theorem dX5_itemAt_9 : decode cX5_itemAt 9 = .ok (.iadd, 1) := by decide +kernel
theorem dX5_itemAt_10 : decode cX5_itemAt 10 = .ok (.iaload, 1) := by decide +kernel
theorem dX5_itemAt_11 : decode cX5_itemAt 11 = .ok (.ireturn, 1) := by decide +kernel
theorem yv_X5_itemAt : YV yX5_itemAt cX5_itemAt 3 (some .int) 2 := ⟨m797, m798, m2, m799, ⟨by decide +kernel, by decide +kernel, by decide +kernel⟩, by decide⟩
noncomputable def f_X5_itemAt (q : Nat) (x1 : Int32) (x2 : Int32) (h : AH) : Option (Int32 × AH) := lt (((x1 * 40) + x2)) (fun v_2 => ck v_2 320 (some (h (q + 3) (v_2 : Int32).toNatClampNeg, h)))
set_option maxRecDepth 20000 in
set_option maxHeartbeats 4000000 in
theorem ct_X5_itemAt (l : Launch) (g : GC) {q : Nat} (hq : (gL g)[q]? = some (.inl 5)) (x1 : Int32) (x2 : Int32) : Ct l yX5_itemAt cX5_itemAt 3 (some .int) 1 [.ref (gad g q), .int x1, .int x2] g mkI (fun h => f_X5_itemAt q x1 x2 h) := by
  refine Ct.of (by decide +kernel) (Nat.le_of_ble_eq_true rfl) (fun z A h _ F => ?_)
  show Snd z 3 g A (QF z g A mkI) 0 [(0, .ref (gad g q)), (1, .int x1), (2, .int x2)] [] h (f_X5_itemAt q x1 x2 h)
  unfold f_X5_itemAt
  refine s_aload_n F dX5_itemAt_0 rfl 0 rfl ?_
  have hw_1 := wf_ref F.2.2.2.2.2.2.1 hq 2 3 (.inr (0, 320)) rfl
  refine s_getr F ciX5 2 3 (.inr (0, 320)) hq (by decide) rfl rfl m34 dX5_itemAt_1 ?_
  refine s_iload_n F dX5_itemAt_4 rfl 1 rfl ?_
  refine s_bipush F (v := 40) dX5_itemAt_5 (by decide) ?_
  refine s_imul F dX5_itemAt_7 ?_
  refine s_iload_n F dX5_itemAt_8 rfl 2 rfl ?_
  refine s_iadd F dX5_itemAt_9 ?_
  refine s_leti (fun v_2 => ?_)
  refine s_iald F hw_1 dX5_itemAt_10 ?_
  exact s_iret F dX5_itemAt_11
theorem dX5_move_0 : decode cX5_move 0 = .ok (.aload_n 0, 1) := by decide +kernel
theorem dX5_move_1 : decode cX5_move 1 = .ok (.getfield 16, 3) := by decide +kernel
theorem dX5_move_4 : decode cX5_move 4 = .ok (.iload_n 1, 1) := by decide +kernel
theorem dX5_move_5 : decode cX5_move 5 = .ok (.bipush 40, 2) := by decide +kernel
theorem dX5_move_7 : decode cX5_move 7 = .ok (.imul, 1) := by decide +kernel
theorem dX5_move_8 : decode cX5_move 8 = .ok (.iload_n 2, 1) := by decide +kernel
theorem dX5_move_9 : decode cX5_move 9 = .ok (.iadd, 1) := by decide +kernel
theorem dX5_move_10 : decode cX5_move 10 = .ok (.aload_n 0, 1) := by decide +kernel
theorem dX5_move_11 : decode cX5_move 11 = .ok (.getfield 16, 3) := by decide +kernel
theorem dX5_move_14 : decode cX5_move 14 = .ok (.iload_n 3, 1) := by decide +kernel
theorem dX5_move_15 : decode cX5_move 15 = .ok (.bipush 40, 2) := by decide +kernel
theorem dX5_move_17 : decode cX5_move 17 = .ok (.imul, 1) := by decide +kernel
theorem dX5_move_18 : decode cX5_move 18 = .ok (.iload 4, 2) := by decide +kernel
theorem dX5_move_20 : decode cX5_move 20 = .ok (.iadd, 1) := by decide +kernel
theorem dX5_move_21 : decode cX5_move 21 = .ok (.iload 5, 2) := by decide +kernel
theorem dX5_move_23 : decode cX5_move 23 = .ok (.invokestatic 23, 3) := by decide +kernel
theorem dX5_move_26 : decode cX5_move 26 = .ok (.return_, 1) := by decide +kernel
theorem yv_X5_move : YV yX5_move cX5_move 6 none 5 := ⟨m322, m323, m2, m324, ⟨by decide +kernel, by decide +kernel, by decide +kernel⟩, by decide⟩
noncomputable def f_X5_move (q : Nat) (x1 : Int32) (x2 : Int32) (x3 : Int32) (x4 : Int32) (x5 : Int32) (h : AH) : Option (Unit × AH) := bh (cpy h (q + 3) 320 ((x1 * 40) + x2) (q + 3) 320 ((x3 * 40) + x4) x5) (fun h_3 => some ((), h_3))
set_option maxRecDepth 20000 in
set_option maxHeartbeats 4000000 in
theorem ct_X5_move (l : Launch) (g : GC) {q : Nat} (hq : (gL g)[q]? = some (.inl 5)) (x1 : Int32) (x2 : Int32) (x3 : Int32) (x4 : Int32) (x5 : Int32) : Ct l yX5_move cX5_move 6 none 1 [.ref (gad g q), .int x1, .int x2, .int x3, .int x4, .int x5] g mkU (fun h => f_X5_move q x1 x2 x3 x4 x5 h) := by
  refine Ct.of (by decide +kernel) (Nat.le_of_ble_eq_true rfl) (fun z A h _ F => ?_)
  show Snd z 6 g A (QF z g A mkU) 0 [(0, .ref (gad g q)), (1, .int x1), (2, .int x2), (3, .int x3), (4, .int x4), (5, .int x5)] [] h (f_X5_move q x1 x2 x3 x4 x5 h)
  unfold f_X5_move
  refine s_aload_n F dX5_move_0 rfl 0 rfl ?_
  have hw_1 := wf_ref F.2.2.2.2.2.2.1 hq 2 3 (.inr (0, 320)) rfl
  refine s_getr F ciX5 2 3 (.inr (0, 320)) hq (by decide) rfl rfl m34 dX5_move_1 ?_
  refine s_iload_n F dX5_move_4 rfl 1 rfl ?_
  refine s_bipush F (v := 40) dX5_move_5 (by decide) ?_
  refine s_imul F dX5_move_7 ?_
  refine s_iload_n F dX5_move_8 rfl 2 rfl ?_
  refine s_iadd F dX5_move_9 ?_
  refine s_aload_n F dX5_move_10 rfl 0 rfl ?_
  have hw_2 := wf_ref F.2.2.2.2.2.2.1 hq 2 3 (.inr (0, 320)) rfl
  refine s_getr F ciX5 2 3 (.inr (0, 320)) hq (by decide) rfl rfl m34 dX5_move_11 ?_
  refine s_iload_n F dX5_move_14 rfl 3 rfl ?_
  refine s_bipush F (v := 40) dX5_move_15 (by decide) ?_
  refine s_imul F dX5_move_17 ?_
  refine s_iload F dX5_move_18 4 rfl ?_
  refine s_iadd F dX5_move_20 ?_
  refine s_iload F dX5_move_21 5 rfl ?_
  refine s_cpy F (by decide) hw_1 hw_2 m325 m327 m326 m10 (Nat.le_of_ble_eq_true rfl) dX5_move_23 (fun h_3 => ?_)
  exact s_vret F dX5_move_26
theorem dX5_remove_0 : decode cX5_remove 0 = .ok (.aload_n 0, 1) := by decide +kernel
theorem dX5_remove_1 : decode cX5_remove 1 = .ok (.getfield 13, 3) := by decide +kernel
theorem dX5_remove_4 : decode cX5_remove 4 = .ok (.iload_n 1, 1) := by decide +kernel
theorem dX5_remove_5 : decode cX5_remove 5 = .ok (.iaload, 1) := by decide +kernel
theorem dX5_remove_6 : decode cX5_remove 6 = .ok (.istore_n 2, 1) := by decide +kernel
theorem dX5_remove_7 : decode cX5_remove 7 = .ok (.aload_n 0, 1) := by decide +kernel
theorem dX5_remove_8 : decode cX5_remove 8 = .ok (.getfield 13, 3) := by decide +kernel
theorem dX5_remove_11 : decode cX5_remove 11 = .ok (.iload_n 1, 1) := by decide +kernel
theorem dX5_remove_12 : decode cX5_remove 12 = .ok (.iconst (-1), 1) := by decide +kernel
theorem dX5_remove_13 : decode cX5_remove 13 = .ok (.iastore, 1) := by decide +kernel
theorem dX5_remove_14 : decode cX5_remove 14 = .ok (.iload_n 2, 1) := by decide +kernel
theorem dX5_remove_15 : decode cX5_remove 15 = .ok (.ireturn, 1) := by decide +kernel
theorem yv_X5_remove : YV yX5_remove cX5_remove 3 (some .int) 1 := ⟨m333, m334, m2, m335, ⟨by decide +kernel, by decide +kernel, by decide +kernel⟩, by decide⟩
noncomputable def f_X5_remove (q : Nat) (x1 : Int32) (h : AH) : Option (Int32 × AH) := ck x1 8 (lt (h (q + 2) (x1 : Int32).toNatClampNeg) (fun v_2 => ck x1 8 (lt (hset h (q + 2) (x1 : Int32).toNatClampNeg (-1)) (fun h_4 => some (v_2, h_4)))))
set_option maxRecDepth 20000 in
set_option maxHeartbeats 4000000 in
theorem ct_X5_remove (l : Launch) (g : GC) {q : Nat} (hq : (gL g)[q]? = some (.inl 5)) (x1 : Int32) : Ct l yX5_remove cX5_remove 3 (some .int) 1 [.ref (gad g q), .int x1] g mkI (fun h => f_X5_remove q x1 h) := by
  refine Ct.of (by decide +kernel) (Nat.le_of_ble_eq_true rfl) (fun z A h _ F => ?_)
  show Snd z 3 g A (QF z g A mkI) 0 [(0, .ref (gad g q)), (1, .int x1)] [] h (f_X5_remove q x1 h)
  unfold f_X5_remove
  refine s_aload_n F dX5_remove_0 rfl 0 rfl ?_
  have hw_1 := wf_ref F.2.2.2.2.2.2.1 hq 1 2 (.inr (0, 8)) rfl
  refine s_getr F ciX5 1 2 (.inr (0, 8)) hq (by decide) rfl rfl m33 dX5_remove_1 ?_
  refine s_iload_n F dX5_remove_4 rfl 1 rfl ?_
  refine s_iald F hw_1 dX5_remove_5 ?_
  refine s_leti (fun v_2 => ?_)
  refine s_istore_n F (lv' := [(2, .int v_2), (0, .ref (gad g q)), (1, .int x1)]) dX5_remove_6 rfl (by decide) rfl ?_
  refine s_aload_n F dX5_remove_7 rfl 1 rfl ?_
  have hw_3 := wf_ref F.2.2.2.2.2.2.1 hq 1 2 (.inr (0, 8)) rfl
  refine s_getr F ciX5 1 2 (.inr (0, 8)) hq (by decide) rfl rfl m33 dX5_remove_8 ?_
  refine s_iload_n F dX5_remove_11 rfl 2 rfl ?_
  refine s_iconst F (v := (-1)) dX5_remove_12 (by decide) ?_
  refine s_iast F hw_3 dX5_remove_13 ?_
  refine s_letH (fun h_4 => ?_)
  refine s_iload_n F dX5_remove_14 rfl 0 rfl ?_
  exact s_iret F dX5_remove_15
theorem dX5_present_0 : decode cX5_present 0 = .ok (.iconst 0, 1) := by decide +kernel
theorem dX5_present_1 : decode cX5_present 1 = .ok (.istore_n 1, 1) := by decide +kernel
theorem dX5_present_2 : decode cX5_present 2 = .ok (.iconst 0, 1) := by decide +kernel
theorem dX5_present_3 : decode cX5_present 3 = .ok (.istore_n 2, 1) := by decide +kernel
theorem dX5_present_4 : decode cX5_present 4 = .ok (.iload_n 2, 1) := by decide +kernel
theorem dX5_present_5 : decode cX5_present 5 = .ok (.bipush 8, 2) := by decide +kernel
theorem dX5_present_7 : decode cX5_present 7 = .ok (.if_icmp .ge 25, 3) := by decide +kernel
theorem dX5_present_10 : decode cX5_present 10 = .ok (.iload_n 1, 1) := by decide +kernel
theorem dX5_present_11 : decode cX5_present 11 = .ok (.aload_n 0, 1) := by decide +kernel
theorem dX5_present_12 : decode cX5_present 12 = .ok (.iload_n 2, 1) := by decide +kernel
theorem dX5_present_13 : decode cX5_present 13 = .ok (.invokevirtual 29, 3) := by decide +kernel
theorem dX5_present_16 : decode cX5_present 16 = .ok (.ifCond .eq 7, 3) := by decide +kernel
theorem dX5_present_19 : decode cX5_present 19 = .ok (.iconst 0, 1) := by decide +kernel
theorem dX5_present_20 : decode cX5_present 20 = .ok (.goto 4, 3) := by decide +kernel
theorem dX5_present_23 : decode cX5_present 23 = .ok (.iconst 1, 1) := by decide +kernel
theorem dX5_present_24 : decode cX5_present 24 = .ok (.iadd, 1) := by decide +kernel
theorem dX5_present_25 : decode cX5_present 25 = .ok (.istore_n 1, 1) := by decide +kernel
theorem dX5_present_26 : decode cX5_present 26 = .ok (.iinc 2 1, 3) := by decide +kernel
theorem dX5_present_29 : decode cX5_present 29 = .ok (.goto (-25), 3) := by decide +kernel
theorem dX5_present_32 : decode cX5_present 32 = .ok (.iload_n 1, 1) := by decide +kernel
theorem dX5_present_33 : decode cX5_present 33 = .ok (.ireturn, 1) := by decide +kernel
theorem yv_X5_present : YV yX5_present cX5_present 3 (some .int) 0 := ⟨m878, m879, m2, m880, ⟨by decide +kernel, by decide +kernel, by decide +kernel⟩, by decide⟩
noncomputable def f_X5_present_4 (q : Nat) : Nat → Int32 → Int32 → AH → Option (Int32 × AH)
  | 0, _, _, _ => none
  | n + 1, x1, x2, h => if (8 : Int32) ≤ x2 then (some (x1, h)) else (bd (f_X5_isMissing q x2 h) (fun v_2 h_1 => if v_2 = 0 then (lt ((x1 + 1)) (fun v_3 => lt (x2 + 1) (fun v_4 => (f_X5_present_4 q n) v_3 v_4 h_1))) else (lt ((x1 + 0)) (fun v_5 => lt (x2 + 1) (fun v_6 => (f_X5_present_4 q n) v_5 v_6 h_1)))))
set_option maxRecDepth 20000 in
set_option maxHeartbeats 4000000 in
theorem t_X5_present_4 {z : MC} {g : GC} {A : Nat → Prop} (F : Fx z cX5_present 3 RX5 (some .int) 2 g A) {q : Nat} (hq : (gL g)[q]? = some (.inl 5)) : ∀ (n : Nat) (x1 : Int32) (x2 : Int32) (h : AH), Snd z 3 g A (QF z g A mkI) 4 [(0, .ref (gad g q)), (1, .int x1), (2, .int x2)] [] h (f_X5_present_4 q n x1 x2 h) := by
  intro n
  induction n with
  | zero => intros; exact s_none
  | succ n ih =>
    intro x1 x2 h
    unfold f_X5_present_4
    refine s_iload_n F dX5_present_4 rfl 2 rfl ?_
    refine s_bipush F (v := 8) dX5_present_5 (by decide) ?_
    refine s_icmp_ge F 32 dX5_present_7 (by decide) (fun _ => ?_) (fun _ => ?_)
    · refine s_iload_n F dX5_present_32 rfl 1 rfl ?_
      exact s_iret F dX5_present_33
    · refine s_iload_n F dX5_present_10 rfl 1 rfl ?_
      refine s_aload_n F dX5_present_11 rfl 0 rfl ?_
      refine s_iload_n F dX5_present_12 rfl 2 rfl ?_
      refine s_callVi (f := fun hh => f_X5_isMissing q x2 hh) (As := [.int x2]) F yv_X5_isMissing (ct_X5_isMissing z.2.1 g hq x2) (by decide) m881 hq rfl rfl rfl (Nat.le_of_ble_eq_true rfl) dX5_present_13 (fun v_2 h_1 e_v_2 => ?_)
      refine s_if_eq F 23 dX5_present_16 (by decide) (fun _ => ?_) (fun _ => ?_)
      · refine s_iconst F (v := 1) dX5_present_23 (by decide) ?_
        refine s_iadd F dX5_present_24 ?_
        refine s_leti (fun v_3 => ?_)
        refine s_istore_n F (lv' := [(1, .int v_3), (0, .ref (gad g q)), (2, .int x2)]) dX5_present_25 rfl (by decide) rfl ?_
        refine s_iincv F dX5_present_26 2 rfl (by decide) (c := 1) (by decide) (fun v_4 => ?_)
        refine s_lv (lv' := [(2, .int v_4), (1, .int v_3), (0, .ref (gad g q))]) rfl ?_
        refine s_goto F 4 dX5_present_29 (by decide) ?_
        exact s_sub [2, 1, 0] rfl (ih v_3 v_4 h_1)
      · refine s_iconst F (v := 0) dX5_present_19 (by decide) ?_
        refine s_goto F 24 dX5_present_20 (by decide) ?_
        refine s_iadd F dX5_present_24 ?_
        refine s_leti (fun v_5 => ?_)
        refine s_istore_n F (lv' := [(1, .int v_5), (0, .ref (gad g q)), (2, .int x2)]) dX5_present_25 rfl (by decide) rfl ?_
        refine s_iincv F dX5_present_26 2 rfl (by decide) (c := 1) (by decide) (fun v_6 => ?_)
        refine s_lv (lv' := [(2, .int v_6), (1, .int v_5), (0, .ref (gad g q))]) rfl ?_
        refine s_goto F 4 dX5_present_29 (by decide) ?_
        exact s_sub [2, 1, 0] rfl (ih v_5 v_6 h_1)
noncomputable def f_X5_present (q : Nat) (h : AH) : Option (Int32 × AH) := f_X5_present_4 q fu 0 0 h
set_option maxRecDepth 20000 in
set_option maxHeartbeats 4000000 in
theorem ct_X5_present (l : Launch) (g : GC) {q : Nat} (hq : (gL g)[q]? = some (.inl 5)) : Ct l yX5_present cX5_present 3 (some .int) 2 [.ref (gad g q)] g mkI (fun h => f_X5_present q h) := by
  refine Ct.of (by decide +kernel) (Nat.le_of_ble_eq_true rfl) (fun z A h _ F => ?_)
  show Snd z 3 g A (QF z g A mkI) 0 [(0, .ref (gad g q))] [] h (f_X5_present q h)
  unfold f_X5_present
  refine s_iconst F (v := 0) dX5_present_0 (by decide) ?_
  refine s_istore_n F (lv' := [(1, .int 0), (0, .ref (gad g q))]) dX5_present_1 rfl (by decide) rfl ?_
  refine s_iconst F (v := 0) dX5_present_2 (by decide) ?_
  refine s_istore_n F (lv' := [(2, .int 0), (1, .int 0), (0, .ref (gad g q))]) dX5_present_3 rfl (by decide) rfl ?_
  exact s_sub [2, 1, 0] rfl (t_X5_present_4 F hq fu 0 0 h)
theorem dX7_isTrade_0 : decode cX7_isTrade 0 = .ok (.iload_n 0, 1) := by decide +kernel
theorem dX7_isTrade_1 : decode cX7_isTrade 1 = .ok (.ifCond .lt 12, 3) := by decide +kernel
theorem dX7_isTrade_4 : decode cX7_isTrade 4 = .ok (.iload_n 0, 1) := by decide +kernel
theorem dX7_isTrade_5 : decode cX7_isTrade 5 = .ok (.iconst 4, 1) := by decide +kernel
theorem dX7_isTrade_6 : decode cX7_isTrade 6 = .ok (.if_icmp .ge 7, 3) := by decide +kernel
theorem dX7_isTrade_9 : decode cX7_isTrade 9 = .ok (.iconst 1, 1) := by decide +kernel
theorem dX7_isTrade_10 : decode cX7_isTrade 10 = .ok (.goto 4, 3) := by decide +kernel
theorem dX7_isTrade_13 : decode cX7_isTrade 13 = .ok (.iconst 0, 1) := by decide +kernel
theorem dX7_isTrade_14 : decode cX7_isTrade 14 = .ok (.ireturn, 1) := by decide +kernel
theorem ys_X7_isTrade : YS yX7_isTrade cX7_isTrade 1 (some .boolean) 1 := ⟨m639, m1, m640, ⟨by decide +kernel, by decide +kernel, by decide +kernel⟩, by decide⟩
noncomputable def f_X7_isTrade (x0 : Int32) (h : AH) : Option (Int32 × AH) := if x0 < 0 then (some (0, h)) else (if (4 : Int32) ≤ x0 then (some (0, h)) else (some (1, h)))
set_option maxRecDepth 20000 in
set_option maxHeartbeats 4000000 in
theorem ct_X7_isTrade (l : Launch) (g : GC) (x0 : Int32) : Ct l yX7_isTrade cX7_isTrade 1 (some .boolean) 1 [.int x0] g mkI (fun h => f_X7_isTrade x0 h) := by
  refine Ct.of (by decide +kernel) (Nat.le_of_ble_eq_true rfl) (fun z A h _ F => ?_)
  show Snd z 1 g A (QF z g A mkI) 0 [(0, .int x0)] [] h (f_X7_isTrade x0 h)
  unfold f_X7_isTrade
  refine s_iload_n F dX7_isTrade_0 rfl 0 rfl ?_
  refine s_if_lt F 13 dX7_isTrade_1 (by decide) (fun _ => ?_) (fun _ => ?_)
  · refine s_iconst F (v := 0) dX7_isTrade_13 (by decide) ?_
    exact s_zret1 F (by decide) dX7_isTrade_14
  · refine s_iload_n F dX7_isTrade_4 rfl 0 rfl ?_
    refine s_iconst F (v := 4) dX7_isTrade_5 (by decide) ?_
    refine s_icmp_ge F 13 dX7_isTrade_6 (by decide) (fun _ => ?_) (fun _ => ?_)
    · refine s_iconst F (v := 0) dX7_isTrade_13 (by decide) ?_
      exact s_zret1 F (by decide) dX7_isTrade_14
    · refine s_iconst F (v := 1) dX7_isTrade_9 (by decide) ?_
      refine s_goto F 14 dX7_isTrade_10 (by decide) ?_
      exact s_zret1 F (by decide) dX7_isTrade_14
theorem dX7_isHour_0 : decode cX7_isHour 0 = .ok (.iload_n 0, 1) := by decide +kernel
theorem dX7_isHour_1 : decode cX7_isHour 1 = .ok (.ifCond .lt 13, 3) := by decide +kernel
theorem dX7_isHour_4 : decode cX7_isHour 4 = .ok (.iload_n 0, 1) := by decide +kernel
theorem dX7_isHour_5 : decode cX7_isHour 5 = .ok (.bipush 12, 2) := by decide +kernel
theorem dX7_isHour_7 : decode cX7_isHour 7 = .ok (.if_icmp .ge 7, 3) := by decide +kernel
theorem dX7_isHour_10 : decode cX7_isHour 10 = .ok (.iconst 1, 1) := by decide +kernel
theorem dX7_isHour_11 : decode cX7_isHour 11 = .ok (.goto 4, 3) := by decide +kernel
theorem dX7_isHour_14 : decode cX7_isHour 14 = .ok (.iconst 0, 1) := by decide +kernel
theorem dX7_isHour_15 : decode cX7_isHour 15 = .ok (.ireturn, 1) := by decide +kernel
theorem ys_X7_isHour : YS yX7_isHour cX7_isHour 1 (some .boolean) 1 := ⟨m693, m1, m694, ⟨by decide +kernel, by decide +kernel, by decide +kernel⟩, by decide⟩
noncomputable def f_X7_isHour (x0 : Int32) (h : AH) : Option (Int32 × AH) := if x0 < 0 then (some (0, h)) else (if (12 : Int32) ≤ x0 then (some (0, h)) else (some (1, h)))
set_option maxRecDepth 20000 in
set_option maxHeartbeats 4000000 in
theorem ct_X7_isHour (l : Launch) (g : GC) (x0 : Int32) : Ct l yX7_isHour cX7_isHour 1 (some .boolean) 1 [.int x0] g mkI (fun h => f_X7_isHour x0 h) := by
  refine Ct.of (by decide +kernel) (Nat.le_of_ble_eq_true rfl) (fun z A h _ F => ?_)
  show Snd z 1 g A (QF z g A mkI) 0 [(0, .int x0)] [] h (f_X7_isHour x0 h)
  unfold f_X7_isHour
  refine s_iload_n F dX7_isHour_0 rfl 0 rfl ?_
  refine s_if_lt F 14 dX7_isHour_1 (by decide) (fun _ => ?_) (fun _ => ?_)
  · refine s_iconst F (v := 0) dX7_isHour_14 (by decide) ?_
    exact s_zret1 F (by decide) dX7_isHour_15
  · refine s_iload_n F dX7_isHour_4 rfl 0 rfl ?_
    refine s_bipush F (v := 12) dX7_isHour_5 (by decide) ?_
    refine s_icmp_ge F 14 dX7_isHour_7 (by decide) (fun _ => ?_) (fun _ => ?_)
    · refine s_iconst F (v := 0) dX7_isHour_14 (by decide) ?_
      exact s_zret1 F (by decide) dX7_isHour_15
    · refine s_iconst F (v := 1) dX7_isHour_10 (by decide) ?_
      refine s_goto F 15 dX7_isHour_11 (by decide) ?_
      exact s_zret1 F (by decide) dX7_isHour_15
theorem dX7_areHours_0 : decode cX7_areHours 0 = .ok (.iload_n 0, 1) := by decide +kernel
theorem dX7_areHours_1 : decode cX7_areHours 1 = .ok (.invokestatic 231, 3) := by decide +kernel
theorem dX7_areHours_4 : decode cX7_areHours 4 = .ok (.ifCond .eq 19, 3) := by decide +kernel
theorem dX7_areHours_7 : decode cX7_areHours 7 = .ok (.iload_n 1, 1) := by decide +kernel
theorem dX7_areHours_8 : decode cX7_areHours 8 = .ok (.invokestatic 231, 3) := by decide +kernel
theorem dX7_areHours_11 : decode cX7_areHours 11 = .ok (.ifCond .eq 12, 3) := by decide +kernel
theorem dX7_areHours_14 : decode cX7_areHours 14 = .ok (.iload_n 0, 1) := by decide +kernel
theorem dX7_areHours_15 : decode cX7_areHours 15 = .ok (.iload_n 1, 1) := by decide +kernel
theorem dX7_areHours_16 : decode cX7_areHours 16 = .ok (.if_icmp .gt 7, 3) := by decide +kernel
theorem dX7_areHours_19 : decode cX7_areHours 19 = .ok (.iconst 1, 1) := by decide +kernel
theorem dX7_areHours_20 : decode cX7_areHours 20 = .ok (.goto 4, 3) := by decide +kernel
theorem dX7_areHours_23 : decode cX7_areHours 23 = .ok (.iconst 0, 1) := by decide +kernel
theorem dX7_areHours_24 : decode cX7_areHours 24 = .ok (.ireturn, 1) := by decide +kernel
theorem ys_X7_areHours : YS yX7_areHours cX7_areHours 2 (some .boolean) 2 := ⟨m700, m1, m701, ⟨by decide +kernel, by decide +kernel, by decide +kernel⟩, by decide⟩
noncomputable def f_X7_areHours (x0 : Int32) (x1 : Int32) (h : AH) : Option (Int32 × AH) := bd (f_X7_isHour x0 h) (fun v_2 h_1 => if v_2 = 0 then (some (0, h_1)) else (bd (f_X7_isHour x1 h_1) (fun v_4 h_3 => if v_4 = 0 then (some (0, h_3)) else (if x1 < x0 then (some (0, h_3)) else (some (1, h_3))))))
set_option maxRecDepth 20000 in
set_option maxHeartbeats 4000000 in
theorem ct_X7_areHours (l : Launch) (g : GC) (x0 : Int32) (x1 : Int32) : Ct l yX7_areHours cX7_areHours 2 (some .boolean) 2 [.int x0, .int x1] g mkI (fun h => f_X7_areHours x0 x1 h) := by
  refine Ct.of (by decide +kernel) (Nat.le_of_ble_eq_true rfl) (fun z A h _ F => ?_)
  show Snd z 2 g A (QF z g A mkI) 0 [(0, .int x0), (1, .int x1)] [] h (f_X7_areHours x0 x1 h)
  unfold f_X7_areHours
  refine s_iload_n F dX7_areHours_0 rfl 0 rfl ?_
  refine s_callSi (f := fun hh => f_X7_isHour x0 hh) (As := [.int x0]) F ys_X7_isHour (ct_X7_isHour z.2.1 g x0) (by decide) m692 rfl rfl (Nat.le_of_ble_eq_true rfl) dX7_areHours_1 (fun v_2 h_1 e_v_2 => ?_)
  refine s_if_eq F 23 dX7_areHours_4 (by decide) (fun _ => ?_) (fun _ => ?_)
  · refine s_iconst F (v := 0) dX7_areHours_23 (by decide) ?_
    exact s_zret1 F (by decide) dX7_areHours_24
  · refine s_iload_n F dX7_areHours_7 rfl 1 rfl ?_
    refine s_callSi (f := fun hh => f_X7_isHour x1 hh) (As := [.int x1]) F ys_X7_isHour (ct_X7_isHour z.2.1 g x1) (by decide) m692 rfl rfl (Nat.le_of_ble_eq_true rfl) dX7_areHours_8 (fun v_4 h_3 e_v_4 => ?_)
    refine s_if_eq F 23 dX7_areHours_11 (by decide) (fun _ => ?_) (fun _ => ?_)
    · refine s_iconst F (v := 0) dX7_areHours_23 (by decide) ?_
      exact s_zret1 F (by decide) dX7_areHours_24
    · refine s_iload_n F dX7_areHours_14 rfl 0 rfl ?_
      refine s_iload_n F dX7_areHours_15 rfl 1 rfl ?_
      refine s_icmp_gt F 23 dX7_areHours_16 (by decide) (fun _ => ?_) (fun _ => ?_)
      · refine s_iconst F (v := 0) dX7_areHours_23 (by decide) ?_
        exact s_zret1 F (by decide) dX7_areHours_24
      · refine s_iconst F (v := 1) dX7_areHours_19 (by decide) ?_
        refine s_goto F 24 dX7_areHours_20 (by decide) ?_
        exact s_zret1 F (by decide) dX7_areHours_24
theorem dX7_isImage_0 : decode cX7_isImage 0 = .ok (.iload_n 0, 1) := by decide +kernel
theorem dX7_isImage_1 : decode cX7_isImage 1 = .ok (.ifCond .eq 8, 3) := by decide +kernel
theorem dX7_isImage_4 : decode cX7_isImage 4 = .ok (.iload_n 0, 1) := by decide +kernel
theorem dX7_isImage_5 : decode cX7_isImage 5 = .ok (.iconst 1, 1) := by decide +kernel
theorem dX7_isImage_6 : decode cX7_isImage 6 = .ok (.if_icmp .ne 7, 3) := by decide +kernel
theorem dX7_isImage_9 : decode cX7_isImage 9 = .ok (.iconst 1, 1) := by decide +kernel
theorem dX7_isImage_10 : decode cX7_isImage 10 = .ok (.goto 4, 3) := by decide +kernel
theorem dX7_isImage_13 : decode cX7_isImage 13 = .ok (.iconst 0, 1) := by decide +kernel
theorem dX7_isImage_14 : decode cX7_isImage 14 = .ok (.ireturn, 1) := by decide +kernel
theorem ys_X7_isImage : YS yX7_isImage cX7_isImage 1 (some .boolean) 1 := ⟨m817, m1, m818, ⟨by decide +kernel, by decide +kernel, by decide +kernel⟩, by decide⟩
noncomputable def f_X7_isImage (x0 : Int32) (h : AH) : Option (Int32 × AH) := if x0 = 0 then (some (1, h)) else (if x0 = 1 then (some (1, h)) else (some (0, h)))
set_option maxRecDepth 20000 in
set_option maxHeartbeats 4000000 in
theorem ct_X7_isImage (l : Launch) (g : GC) (x0 : Int32) : Ct l yX7_isImage cX7_isImage 1 (some .boolean) 1 [.int x0] g mkI (fun h => f_X7_isImage x0 h) := by
  refine Ct.of (by decide +kernel) (Nat.le_of_ble_eq_true rfl) (fun z A h _ F => ?_)
  show Snd z 1 g A (QF z g A mkI) 0 [(0, .int x0)] [] h (f_X7_isImage x0 h)
  unfold f_X7_isImage
  refine s_iload_n F dX7_isImage_0 rfl 0 rfl ?_
  refine s_if_eq F 9 dX7_isImage_1 (by decide) (fun _ => ?_) (fun _ => ?_)
  · refine s_iconst F (v := 1) dX7_isImage_9 (by decide) ?_
    refine s_goto F 14 dX7_isImage_10 (by decide) ?_
    exact s_zret1 F (by decide) dX7_isImage_14
  · refine s_iload_n F dX7_isImage_4 rfl 0 rfl ?_
    refine s_iconst F (v := 1) dX7_isImage_5 (by decide) ?_
    refine s_icmp_ne F 13 dX7_isImage_6 (by decide) (fun _ => ?_) (fun _ => ?_)
    · refine s_iconst F (v := 0) dX7_isImage_13 (by decide) ?_
      exact s_zret1 F (by decide) dX7_isImage_14
    · refine s_iconst F (v := 1) dX7_isImage_9 (by decide) ?_
      refine s_goto F 14 dX7_isImage_10 (by decide) ?_
      exact s_zret1 F (by decide) dX7_isImage_14
theorem dX7_isKind_0 : decode cX7_isKind 0 = .ok (.iload_n 0, 1) := by decide +kernel
theorem dX7_isKind_1 : decode cX7_isKind 1 = .ok (.istore_n 2, 1) := by decide +kernel
theorem dX7_isKind_2 : decode cX7_isKind 2 = .ok (.iconst 0, 1) := by decide +kernel
theorem dX7_isKind_3 : decode cX7_isKind 3 = .ok (.istore_n 3, 1) := by decide +kernel
theorem dX7_isKind_4 : decode cX7_isKind 4 = .ok (.iload_n 3, 1) := by decide +kernel
theorem dX7_isKind_5 : decode cX7_isKind 5 = .ok (.getstatic 271, 3) := by decide +kernel
theorem dX7_isKind_8 : decode cX7_isKind 8 = .ok (.arraylength, 1) := by decide +kernel
theorem dX7_isKind_9 : decode cX7_isKind 9 = .ok (.if_icmp .ge 26, 3) := by decide +kernel
theorem dX7_isKind_12 : decode cX7_isKind 12 = .ok (.iload_n 2, 1) := by decide +kernel
theorem dX7_isKind_13 : decode cX7_isKind 13 = .ok (.ifCond .lt 22, 3) := by decide +kernel
theorem dX7_isKind_16 : decode cX7_isKind 16 = .ok (.iload_n 2, 1) := by decide +kernel
theorem dX7_isKind_17 : decode cX7_isKind 17 = .ok (.iload_n 1, 1) := by decide +kernel
theorem dX7_isKind_18 : decode cX7_isKind 18 = .ok (.if_icmp .ne 5, 3) := by decide +kernel
theorem dX7_isKind_21 : decode cX7_isKind 21 = .ok (.iconst 1, 1) := by decide +kernel
theorem dX7_isKind_22 : decode cX7_isKind 22 = .ok (.ireturn, 1) := by decide +kernel
theorem dX7_isKind_23 : decode cX7_isKind 23 = .ok (.getstatic 271, 3) := by decide +kernel
theorem dX7_isKind_26 : decode cX7_isKind 26 = .ok (.iload_n 2, 1) := by decide +kernel
theorem dX7_isKind_27 : decode cX7_isKind 27 = .ok (.iaload, 1) := by decide +kernel
theorem dX7_isKind_28 : decode cX7_isKind 28 = .ok (.istore_n 2, 1) := by decide +kernel
theorem dX7_isKind_29 : decode cX7_isKind 29 = .ok (.iinc 3 1, 3) := by decide +kernel
theorem dX7_isKind_32 : decode cX7_isKind 32 = .ok (.goto (-28), 3) := by decide +kernel
theorem dX7_isKind_35 : decode cX7_isKind 35 = .ok (.iconst 0, 1) := by decide +kernel
theorem dX7_isKind_36 : decode cX7_isKind 36 = .ok (.ireturn, 1) := by decide +kernel
theorem ys_X7_isKind : YS yX7_isKind cX7_isKind 4 (some .boolean) 2 := ⟨m838, m1, m839, ⟨by decide +kernel, by decide +kernel, by decide +kernel⟩, by decide⟩
noncomputable def f_X7_isKind_4 : Nat → Int32 → Int32 → Int32 → AH → Option (Int32 × AH)
  | 0, _, _, _, _ => none
  | n + 1, x1, x2, x3, h => if (6 : Int32) ≤ x3 then (some (0, h)) else (if x2 < 0 then (some (0, h)) else (if x2 = x1 then (some (1, h)) else (ck x2 6 (lt ((stv 1).getD (x2 : Int32).toNatClampNeg 0) (fun v_1 => lt (x3 + 1) (fun v_2 => (f_X7_isKind_4  n) x1 v_1 v_2 h))))))
set_option maxRecDepth 20000 in
set_option maxHeartbeats 4000000 in
theorem t_X7_isKind_4 {z : MC} {g : GC} {A : Nat → Prop} (F : Fx z cX7_isKind 4 RX7 (some .boolean) 1 g A)  : ∀ (n : Nat) (x1 : Int32) (x2 : Int32) (x3 : Int32) (h : AH), Snd z 4 g A (QF z g A mkI) 4 [(1, .int x1), (2, .int x2), (3, .int x3)] [] h (f_X7_isKind_4  n x1 x2 x3 h) := by
  intro n
  induction n with
  | zero => intros; exact s_none
  | succ n ih =>
    intro x1 x2 x3 h
    unfold f_X7_isKind_4
    refine s_iload_n F dX7_isKind_4 rfl 2 rfl ?_
    refine s_gets F 1 (by decide) rfl rfl m835 dX7_isKind_5 ?_
    refine s_tlen F 1 (by decide) (v := 6) rfl dX7_isKind_8 ?_
    refine s_icmp_ge F 35 dX7_isKind_9 (by decide) (fun _ => ?_) (fun _ => ?_)
    · refine s_iconst F (v := 0) dX7_isKind_35 (by decide) ?_
      exact s_zret1 F (by decide) dX7_isKind_36
    · refine s_iload_n F dX7_isKind_12 rfl 1 rfl ?_
      refine s_if_lt F 35 dX7_isKind_13 (by decide) (fun _ => ?_) (fun _ => ?_)
      · refine s_iconst F (v := 0) dX7_isKind_35 (by decide) ?_
        exact s_zret1 F (by decide) dX7_isKind_36
      · refine s_iload_n F dX7_isKind_16 rfl 1 rfl ?_
        refine s_iload_n F dX7_isKind_17 rfl 0 rfl ?_
        refine s_icmp_ne F 23 dX7_isKind_18 (by decide) (fun _ => ?_) (fun _ => ?_)
        · refine s_gets F 1 (by decide) rfl rfl m835 dX7_isKind_23 ?_
          refine s_iload_n F dX7_isKind_26 rfl 1 rfl ?_
          refine s_tld F 1 (by decide) rfl dX7_isKind_27 ?_
          refine s_leti (fun v_1 => ?_)
          refine s_istore_n F (lv' := [(2, .int v_1), (1, .int x1), (3, .int x3)]) dX7_isKind_28 rfl (by decide) rfl ?_
          refine s_iincv F dX7_isKind_29 2 rfl (by decide) (c := 1) (by decide) (fun v_2 => ?_)
          refine s_lv (lv' := [(3, .int v_2), (2, .int v_1), (1, .int x1)]) rfl ?_
          refine s_goto F 4 dX7_isKind_32 (by decide) ?_
          exact s_sub [2, 1, 0] rfl (ih x1 v_1 v_2 h)
        · refine s_iconst F (v := 1) dX7_isKind_21 (by decide) ?_
          exact s_zret1 F (by decide) dX7_isKind_22
noncomputable def f_X7_isKind (x0 : Int32) (x1 : Int32) (h : AH) : Option (Int32 × AH) := f_X7_isKind_4  fu x1 x0 0 h
set_option maxRecDepth 20000 in
set_option maxHeartbeats 4000000 in
theorem ct_X7_isKind (l : Launch) (g : GC) (x0 : Int32) (x1 : Int32) : Ct l yX7_isKind cX7_isKind 4 (some .boolean) 1 [.int x0, .int x1] g mkI (fun h => f_X7_isKind x0 x1 h) := by
  refine Ct.of (by decide +kernel) (Nat.le_of_ble_eq_true rfl) (fun z A h _ F => ?_)
  show Snd z 4 g A (QF z g A mkI) 0 [(0, .int x0), (1, .int x1)] [] h (f_X7_isKind x0 x1 h)
  unfold f_X7_isKind
  refine s_iload_n F dX7_isKind_0 rfl 0 rfl ?_
  refine s_istore_n F (lv' := [(2, .int x0), (0, .int x0), (1, .int x1)]) dX7_isKind_1 rfl (by decide) rfl ?_
  refine s_iconst F (v := 0) dX7_isKind_2 (by decide) ?_
  refine s_istore_n F (lv' := [(3, .int 0), (2, .int x0), (0, .int x0), (1, .int x1)]) dX7_isKind_3 rfl (by decide) rfl ?_
  exact s_sub [3, 1, 0] rfl (t_X7_isKind_4 F  fu x1 x0 0 h)
