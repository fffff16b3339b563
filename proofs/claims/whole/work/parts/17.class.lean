theorem dX7_found_0 : decode cX7_found 0 = .ok (.aload_n 0, 1) := by decide +kernel
theorem dX7_found_1 : decode cX7_found 1 = .ok (.iload_n 1, 1) := by decide +kernel
theorem dX7_found_2 : decode cX7_found 2 = .ok (.putfield 294, 3) := by decide +kernel
theorem dX7_found_5 : decode cX7_found 5 = .ok (.ldc_w 297, 3) := by decide +kernel
theorem dX7_found_8 : decode cX7_found 8 = .ok (.iload_n 1, 1) := by decide +kernel
theorem dX7_found_9 : decode cX7_found 9 = .ok (.isub, 1) := by decide +kernel
theorem dX7_found_10 : decode cX7_found 10 = .ok (.ireturn, 1) := by decide +kernel
theorem yv_X7_found : YV yX7_found cX7_found 2 (some .int) 1 := ⟨m283, ms0, m1, m284, ⟨by decide +kernel, by decide +kernel, by decide +kernel⟩, by decide⟩
noncomputable def f_X7_found (q : Nat) (x1 : Int32) (h : AH) : Option (Int32 × AH) := lt (hset h q 10 x1) (fun h_1 => some (((-1000010) - x1), h_1))
set_option maxRecDepth 20000 in
set_option maxHeartbeats 4000000 in
theorem ct_X7_found (l : Launch) (g : GC) {q : Nat} (hq : (gL g)[q]? = some (.inl 7)) (x1 : Int32) : Ct l yX7_found cX7_found 2 (some .int) 1 [.ref (gad g q), .int x1] g mkI (fun h => f_X7_found q x1 h) := by
  refine Ct.of (by decide +kernel) (Nat.le_of_ble_eq_true rfl) (fun z A h _ F => ?_)
  show Snd z 2 g A (QF z g A mkI) 0 [(0, .ref (gad g q)), (1, .int x1)] [] h (f_X7_found q x1 h)
  unfold f_X7_found
  refine s_aload_n F dX7_found_0 rfl 0 rfl ?_
  refine s_iload_n F dX7_found_1 rfl 1 rfl ?_
  refine s_put F ciX7 (k := 10) hq (by decide) rfl rfl rfl rfl m249 dX7_found_2 ?_
  refine s_letH (fun h_1 => ?_)
  refine s_ldcw F (v := (-1000010)) dX7_found_5 m285 ?_
  refine s_iload_n F dX7_found_8 rfl 1 rfl ?_
  refine s_isub F dX7_found_9 ?_
  exact s_iret F dX7_found_10
theorem dX7_unfound_0 : decode cX7_unfound 0 = .ok (.aload_n 0, 1) := by decide +kernel
theorem dX7_unfound_1 : decode cX7_unfound 1 = .ok (.iconst 0, 1) := by decide +kernel
theorem dX7_unfound_2 : decode cX7_unfound 2 = .ok (.putfield 294, 3) := by decide +kernel
theorem dX7_unfound_5 : decode cX7_unfound 5 = .ok (.iload_n 1, 1) := by decide +kernel
theorem dX7_unfound_6 : decode cX7_unfound 6 = .ok (.ireturn, 1) := by decide +kernel
theorem yv_X7_unfound : YV yX7_unfound cX7_unfound 2 (some .int) 1 := ⟨m292, ms1, m1, m293, ⟨by decide +kernel, by decide +kernel, by decide +kernel⟩, by decide⟩
noncomputable def f_X7_unfound (q : Nat) (x1 : Int32) (h : AH) : Option (Int32 × AH) := lt (hset h q 10 0) (fun h_1 => some (x1, h_1))
set_option maxRecDepth 20000 in
set_option maxHeartbeats 4000000 in
theorem ct_X7_unfound (l : Launch) (g : GC) {q : Nat} (hq : (gL g)[q]? = some (.inl 7)) (x1 : Int32) : Ct l yX7_unfound cX7_unfound 2 (some .int) 1 [.ref (gad g q), .int x1] g mkI (fun h => f_X7_unfound q x1 h) := by
  refine Ct.of (by decide +kernel) (Nat.le_of_ble_eq_true rfl) (fun z A h _ F => ?_)
  show Snd z 2 g A (QF z g A mkI) 0 [(0, .ref (gad g q)), (1, .int x1)] [] h (f_X7_unfound q x1 h)
  unfold f_X7_unfound
  refine s_aload_n F dX7_unfound_0 rfl 0 rfl ?_
  refine s_iconst F (v := 0) dX7_unfound_1 (by decide) ?_
  refine s_put F ciX7 (k := 10) hq (by decide) rfl rfl rfl rfl m249 dX7_unfound_2 ?_
  refine s_letH (fun h_1 => ?_)
  refine s_iload_n F dX7_unfound_5 rfl 1 rfl ?_
  exact s_iret F dX7_unfound_6
theorem dX7_row_0 : decode cX7_row 0 = .ok (.iload_n 1, 1) := by decide +kernel
theorem dX7_row_1 : decode cX7_row 1 = .ok (.invokestatic 64, 3) := by decide +kernel
theorem dX7_row_4 : decode cX7_row 4 = .ok (.ifCond .eq 18, 3) := by decide +kernel
theorem dX7_row_7 : decode cX7_row 7 = .ok (.iload_n 2, 1) := by decide +kernel
theorem dX7_row_8 : decode cX7_row 8 = .ok (.ifCond .lt 14, 3) := by decide +kernel
theorem dX7_row_11 : decode cX7_row 11 = .ok (.iload_n 2, 1) := by decide +kernel
theorem dX7_row_12 : decode cX7_row 12 = .ok (.iconst 2, 1) := by decide +kernel
theorem dX7_row_13 : decode cX7_row 13 = .ok (.if_icmp .gt 9, 3) := by decide +kernel
theorem dX7_row_16 : decode cX7_row 16 = .ok (.iload_n 3, 1) := by decide +kernel
theorem dX7_row_17 : decode cX7_row 17 = .ok (.bipush 40, 2) := by decide +kernel
theorem dX7_row_19 : decode cX7_row 19 = .ok (.if_icmp .le 6, 3) := by decide +kernel
theorem dX7_row_22 : decode cX7_row 22 = .ok (.ldc 68, 2) := by decide +kernel
theorem dX7_row_24 : decode cX7_row 24 = .ok (.ireturn, 1) := by decide +kernel
theorem dX7_row_25 : decode cX7_row 25 = .ok (.iload_n 3, 1) := by decide +kernel
theorem dX7_row_26 : decode cX7_row 26 = .ok (.ifCond .ge 9, 3) := by decide +kernel
theorem dX7_row_29 : decode cX7_row 29 = .ok (.aload_n 0, 1) := by decide +kernel
theorem dX7_row_30 : decode cX7_row 30 = .ok (.iconst 4, 1) := by decide +kernel
theorem dX7_row_31 : decode cX7_row 31 = .ok (.invokevirtual 69, 3) := by decide +kernel
theorem dX7_row_34 : decode cX7_row 34 = .ok (.ireturn, 1) := by decide +kernel
theorem dX7_row_35 : decode cX7_row 35 = .ok (.aload_n 0, 1) := by decide +kernel
theorem dX7_row_36 : decode cX7_row 36 = .ok (.getfield 10, 3) := by decide +kernel
theorem dX7_row_39 : decode cX7_row 39 = .ok (.iload_n 1, 1) := by decide +kernel
theorem dX7_row_40 : decode cX7_row 40 = .ok (.iload_n 2, 1) := by decide +kernel
theorem dX7_row_41 : decode cX7_row 41 = .ok (.iload_n 3, 1) := by decide +kernel
theorem dX7_row_42 : decode cX7_row 42 = .ok (.invokevirtual 73, 3) := by decide +kernel
theorem dX7_row_45 : decode cX7_row 45 = .ok (.aload_n 0, 1) := by decide +kernel
theorem dX7_row_46 : decode cX7_row 46 = .ok (.iload_n 3, 1) := by decide +kernel
theorem dX7_row_47 : decode cX7_row 47 = .ok (.invokevirtual 77, 3) := by decide +kernel
theorem dX7_row_50 : decode cX7_row 50 = .ok (.ireturn, 1) := by decide +kernel
theorem yv_X7_row : YV yX7_row cX7_row 4 (some .int) 3 := ⟨m274, m275, m1, m276, ⟨by decide +kernel, by decide +kernel, by decide +kernel⟩, by decide⟩
noncomputable def f_X7_row (q : Nat) (x1 : Int32) (x2 : Int32) (x3 : Int32) (h : AH) : Option (Int32 × AH) := bd (f_X5_isRow x1 h) (fun v_2 h_1 => if v_2 = 0 then (some ((-1000001), h_1)) else (if x2 < 0 then (some ((-1000001), h_1)) else (if (2 : Int32) < x2 then (some ((-1000001), h_1)) else (if x3 ≤ 40 then (if (0 : Int32) ≤ x3 then (bd (f_X5_begin (q + 1) x1 x2 x3 h_1) (fun _ h_4 => bd (f_X7_unfound q x3 h_4) (fun v_7 h_6 => some (v_7, h_6)))) else (bd (f_X7_found q 4 h_1) (fun v_9 h_8 => some (v_9, h_8)))) else (some ((-1000001), h_1))))))
set_option maxRecDepth 20000 in
set_option maxHeartbeats 4000000 in
theorem ct_X7_row (l : Launch) (g : GC) {q : Nat} (hq : (gL g)[q]? = some (.inl 7)) (x1 : Int32) (x2 : Int32) (x3 : Int32) : Ct l yX7_row cX7_row 4 (some .int) 2 [.ref (gad g q), .int x1, .int x2, .int x3] g mkI (fun h => f_X7_row q x1 x2 x3 h) := by
  refine Ct.of (by decide +kernel) (Nat.le_of_ble_eq_true rfl) (fun z A h _ F => ?_)
  show Snd z 4 g A (QF z g A mkI) 0 [(0, .ref (gad g q)), (1, .int x1), (2, .int x2), (3, .int x3)] [] h (f_X7_row q x1 x2 x3 h)
  unfold f_X7_row
  refine s_iload_n F dX7_row_0 rfl 1 rfl ?_
  refine s_callSi (f := fun hh => f_X5_isRow x1 hh) (As := [.int x1]) F ys_X5_isRow (ct_X5_isRow z.2.1 g x1) (by decide) m277 rfl rfl (Nat.le_of_ble_eq_true rfl) dX7_row_1 (fun v_2 h_1 e_v_2 => ?_)
  refine s_if_eq F 22 dX7_row_4 (by decide) (fun _ => ?_) (fun _ => ?_)
  · refine s_ldc F (v := (-1000001)) dX7_row_22 m280 ?_
    exact s_iret F dX7_row_24
  · refine s_iload_n F dX7_row_7 rfl 2 rfl ?_
    refine s_if_lt F 22 dX7_row_8 (by decide) (fun _ => ?_) (fun _ => ?_)
    · refine s_ldc F (v := (-1000001)) dX7_row_22 m280 ?_
      exact s_iret F dX7_row_24
    · refine s_iload_n F dX7_row_11 rfl 2 rfl ?_
      refine s_iconst F (v := 2) dX7_row_12 (by decide) ?_
      refine s_icmp_gt F 22 dX7_row_13 (by decide) (fun _ => ?_) (fun _ => ?_)
      · refine s_ldc F (v := (-1000001)) dX7_row_22 m280 ?_
        exact s_iret F dX7_row_24
      · refine s_iload_n F dX7_row_16 rfl 3 rfl ?_
        refine s_bipush F (v := 40) dX7_row_17 (by decide) ?_
        refine s_icmp_le F 25 dX7_row_19 (by decide) (fun _ => ?_) (fun _ => ?_)
        · refine s_iload_n F dX7_row_25 rfl 3 rfl ?_
          refine s_if_ge F 35 dX7_row_26 (by decide) (fun _ => ?_) (fun _ => ?_)
          · refine s_aload_n F dX7_row_35 rfl 0 rfl ?_
            have hw_3 := wf_ref F.2.2.2.2.2.2.1 hq 0 1 (.inl 5) rfl
            refine s_getr F ciX7 0 1 (.inl 5) hq (by decide) rfl rfl m239 dX7_row_36 ?_
            refine s_iload_n F dX7_row_39 rfl 1 rfl ?_
            refine s_iload_n F dX7_row_40 rfl 2 rfl ?_
            refine s_iload_n F dX7_row_41 rfl 3 rfl ?_
            refine s_callVu (f := fun hh => f_X5_begin (q + 1) x1 x2 x3 hh) (As := [.int x1, .int x2, .int x3]) F yv_X5_begin (ct_X5_begin z.2.1 g hw_3 x1 x2 x3) (by decide) m286 hw_3 rfl rfl rfl (Nat.le_of_ble_eq_true rfl) dX7_row_42 (fun _ h_4 e_v_5 => ?_)
            refine s_aload_n F dX7_row_45 rfl 0 rfl ?_
            refine s_iload_n F dX7_row_46 rfl 3 rfl ?_
            refine s_callVi (f := fun hh => f_X7_unfound q x3 hh) (As := [.int x3]) F yv_X7_unfound (ct_X7_unfound z.2.1 g hq x3) (by decide) m290 hq rfl rfl rfl (Nat.le_of_ble_eq_true rfl) dX7_row_47 (fun v_7 h_6 e_v_7 => ?_)
            exact s_iret F dX7_row_50
          · refine s_aload_n F dX7_row_29 rfl 0 rfl ?_
            refine s_iconst F (v := 4) dX7_row_30 (by decide) ?_
            refine s_callVi (f := fun hh => f_X7_found q 4 hh) (As := [.int 4]) F yv_X7_found (ct_X7_found z.2.1 g hq 4) (by decide) m281 hq rfl rfl rfl (Nat.le_of_ble_eq_true rfl) dX7_row_31 (fun v_9 h_8 e_v_9 => ?_)
            exact s_iret F dX7_row_34
        · refine s_ldc F (v := (-1000001)) dX7_row_22 m280 ?_
          exact s_iret F dX7_row_24
theorem dX7_set_0 : decode cX7_set 0 = .ok (.iload_n 1, 1) := by decide +kernel
theorem dX7_set_1 : decode cX7_set 1 = .ok (.invokestatic 64, 3) := by decide +kernel
theorem dX7_set_4 : decode cX7_set 4 = .ok (.ifCond .ne 6, 3) := by decide +kernel
theorem dX7_set_7 : decode cX7_set 7 = .ok (.ldc 68, 2) := by decide +kernel
theorem dX7_set_9 : decode cX7_set 9 = .ok (.ireturn, 1) := by decide +kernel
theorem dX7_set_10 : decode cX7_set 10 = .ok (.aload_n 0, 1) := by decide +kernel
theorem dX7_set_11 : decode cX7_set 11 = .ok (.getfield 10, 3) := by decide +kernel
theorem dX7_set_14 : decode cX7_set 14 = .ok (.iload_n 1, 1) := by decide +kernel
theorem dX7_set_15 : decode cX7_set 15 = .ok (.invokevirtual 80, 3) := by decide +kernel
theorem dX7_set_18 : decode cX7_set 18 = .ok (.ifCond .eq 9, 3) := by decide +kernel
theorem dX7_set_21 : decode cX7_set 21 = .ok (.aload_n 0, 1) := by decide +kernel
theorem dX7_set_22 : decode cX7_set 22 = .ok (.iconst 1, 1) := by decide +kernel
theorem dX7_set_23 : decode cX7_set 23 = .ok (.invokevirtual 69, 3) := by decide +kernel
theorem dX7_set_26 : decode cX7_set 26 = .ok (.ireturn, 1) := by decide +kernel
theorem dX7_set_27 : decode cX7_set 27 = .ok (.aload_n 0, 1) := by decide +kernel
theorem dX7_set_28 : decode cX7_set 28 = .ok (.getfield 10, 3) := by decide +kernel
theorem dX7_set_31 : decode cX7_set 31 = .ok (.iload_n 1, 1) := by decide +kernel
theorem dX7_set_32 : decode cX7_set 32 = .ok (.iload_n 2, 1) := by decide +kernel
theorem dX7_set_33 : decode cX7_set 33 = .ok (.iconst 1, 1) := by decide +kernel
theorem dX7_set_34 : decode cX7_set 34 = .ok (.invokevirtual 83, 3) := by decide +kernel
theorem dX7_set_37 : decode cX7_set 37 = .ok (.ifCond .ne 9, 3) := by decide +kernel
theorem dX7_set_40 : decode cX7_set 40 = .ok (.aload_n 0, 1) := by decide +kernel
theorem dX7_set_41 : decode cX7_set 41 = .ok (.iconst 2, 1) := by decide +kernel
theorem dX7_set_42 : decode cX7_set 42 = .ok (.invokevirtual 69, 3) := by decide +kernel
theorem dX7_set_45 : decode cX7_set 45 = .ok (.ireturn, 1) := by decide +kernel
theorem dX7_set_46 : decode cX7_set 46 = .ok (.aload_n 0, 1) := by decide +kernel
theorem dX7_set_47 : decode cX7_set 47 = .ok (.aload_n 0, 1) := by decide +kernel
theorem dX7_set_48 : decode cX7_set 48 = .ok (.getfield 10, 3) := by decide +kernel
theorem dX7_set_51 : decode cX7_set 51 = .ok (.iload_n 1, 1) := by decide +kernel
theorem dX7_set_52 : decode cX7_set 52 = .ok (.iload_n 2, 1) := by decide +kernel
theorem dX7_set_53 : decode cX7_set 53 = .ok (.iload_n 3, 1) := by decide +kernel
theorem dX7_set_54 : decode cX7_set 54 = .ok (.invokevirtual 87, 3) := by decide +kernel
theorem dX7_set_57 : decode cX7_set 57 = .ok (.invokevirtual 77, 3) := by decide +kernel
theorem dX7_set_60 : decode cX7_set 60 = .ok (.ireturn, 1) := by decide +kernel
theorem yv_X7_set : YV yX7_set cX7_set 4 (some .int) 3 := ⟨m295, m296, m1, m297, ⟨by decide +kernel, by decide +kernel, by decide +kernel⟩, by decide⟩
noncomputable def f_X7_set (q : Nat) (x1 : Int32) (x2 : Int32) (x3 : Int32) (h : AH) : Option (Int32 × AH) := bd (f_X5_isRow x1 h) (fun v_2 h_1 => if v_2 = 0 then (some ((-1000001), h_1)) else (bd (f_X5_isMissing (q + 1) x1 h_1) (fun v_5 h_4 => if v_5 = 0 then (bd (f_X5_hasPlaces (q + 1) x1 x2 1 h_4) (fun v_8 h_7 => if v_8 = 0 then (bd (f_X7_found q 2 h_7) (fun v_15 h_14 => some (v_15, h_14))) else (bd (f_X5_put (q + 1) x1 x2 x3 h_7) (fun v_11 h_10 => bd (f_X7_unfound q v_11 h_10) (fun v_13 h_12 => some (v_13, h_12)))))) else (bd (f_X7_found q 1 h_4) (fun v_17 h_16 => some (v_17, h_16))))))
set_option maxRecDepth 20000 in
set_option maxHeartbeats 4000000 in
theorem ct_X7_set (l : Launch) (g : GC) {q : Nat} (hq : (gL g)[q]? = some (.inl 7)) (x1 : Int32) (x2 : Int32) (x3 : Int32) : Ct l yX7_set cX7_set 4 (some .int) 3 [.ref (gad g q), .int x1, .int x2, .int x3] g mkI (fun h => f_X7_set q x1 x2 x3 h) := by
  refine Ct.of (by decide +kernel) (Nat.le_of_ble_eq_true rfl) (fun z A h _ F => ?_)
  show Snd z 4 g A (QF z g A mkI) 0 [(0, .ref (gad g q)), (1, .int x1), (2, .int x2), (3, .int x3)] [] h (f_X7_set q x1 x2 x3 h)
  unfold f_X7_set
  refine s_iload_n F dX7_set_0 rfl 1 rfl ?_
  refine s_callSi (f := fun hh => f_X5_isRow x1 hh) (As := [.int x1]) F ys_X5_isRow (ct_X5_isRow z.2.1 g x1) (by decide) m277 rfl rfl (Nat.le_of_ble_eq_true rfl) dX7_set_1 (fun v_2 h_1 e_v_2 => ?_)
  refine s_if_ne F 10 dX7_set_4 (by decide) (fun _ => ?_) (fun _ => ?_)
  · refine s_aload_n F dX7_set_10 rfl 0 rfl ?_
    have hw_3 := wf_ref F.2.2.2.2.2.2.1 hq 0 1 (.inl 5) rfl
    refine s_getr F ciX7 0 1 (.inl 5) hq (by decide) rfl rfl m239 dX7_set_11 ?_
    refine s_iload_n F dX7_set_14 rfl 1 rfl ?_
    refine s_callVi (f := fun hh => f_X5_isMissing (q + 1) x1 hh) (As := [.int x1]) F yv_X5_isMissing (ct_X5_isMissing z.2.1 g hw_3 x1) (by decide) m298 hw_3 rfl rfl rfl (Nat.le_of_ble_eq_true rfl) dX7_set_15 (fun v_5 h_4 e_v_5 => ?_)
    refine s_if_eq F 27 dX7_set_18 (by decide) (fun _ => ?_) (fun _ => ?_)
    · refine s_aload_n F dX7_set_27 rfl 0 rfl ?_
      have hw_6 := wf_ref F.2.2.2.2.2.2.1 hq 0 1 (.inl 5) rfl
      refine s_getr F ciX7 0 1 (.inl 5) hq (by decide) rfl rfl m239 dX7_set_28 ?_
      refine s_iload_n F dX7_set_31 rfl 1 rfl ?_
      refine s_iload_n F dX7_set_32 rfl 2 rfl ?_
      refine s_iconst F (v := 1) dX7_set_33 (by decide) ?_
      refine s_callVi (f := fun hh => f_X5_hasPlaces (q + 1) x1 x2 1 hh) (As := [.int x1, .int x2, .int 1]) F yv_X5_hasPlaces (ct_X5_hasPlaces z.2.1 g hw_6 x1 x2 1) (by decide) m302 hw_6 rfl rfl rfl (Nat.le_of_ble_eq_true rfl) dX7_set_34 (fun v_8 h_7 e_v_8 => ?_)
      refine s_if_ne F 46 dX7_set_37 (by decide) (fun _ => ?_) (fun _ => ?_)
      · refine s_aload_n F dX7_set_46 rfl 0 rfl ?_
        refine s_aload_n F dX7_set_47 rfl 0 rfl ?_
        have hw_9 := wf_ref F.2.2.2.2.2.2.1 hq 0 1 (.inl 5) rfl
        refine s_getr F ciX7 0 1 (.inl 5) hq (by decide) rfl rfl m239 dX7_set_48 ?_
        refine s_iload_n F dX7_set_51 rfl 1 rfl ?_
        refine s_iload_n F dX7_set_52 rfl 2 rfl ?_
        refine s_iload_n F dX7_set_53 rfl 3 rfl ?_
        refine s_callVi (f := fun hh => f_X5_put (q + 1) x1 x2 x3 hh) (As := [.int x1, .int x2, .int x3]) F yv_X5_put (ct_X5_put z.2.1 g hw_9 x1 x2 x3) (by decide) m306 hw_9 rfl rfl rfl (Nat.le_of_ble_eq_true rfl) dX7_set_54 (fun v_11 h_10 e_v_11 => ?_)
        refine s_callVi (f := fun hh => f_X7_unfound q v_11 hh) (As := [.int v_11]) F yv_X7_unfound (ct_X7_unfound z.2.1 g hq v_11) (by decide) m290 hq rfl rfl rfl (Nat.le_of_ble_eq_true rfl) dX7_set_57 (fun v_13 h_12 e_v_13 => ?_)
        exact s_iret F dX7_set_60
      · refine s_aload_n F dX7_set_40 rfl 0 rfl ?_
        refine s_iconst F (v := 2) dX7_set_41 (by decide) ?_
        refine s_callVi (f := fun hh => f_X7_found q 2 hh) (As := [.int 2]) F yv_X7_found (ct_X7_found z.2.1 g hq 2) (by decide) m281 hq rfl rfl rfl (Nat.le_of_ble_eq_true rfl) dX7_set_42 (fun v_15 h_14 e_v_15 => ?_)
        exact s_iret F dX7_set_45
    · refine s_aload_n F dX7_set_21 rfl 0 rfl ?_
      refine s_iconst F (v := 1) dX7_set_22 (by decide) ?_
      refine s_callVi (f := fun hh => f_X7_found q 1 hh) (As := [.int 1]) F yv_X7_found (ct_X7_found z.2.1 g hq 1) (by decide) m281 hq rfl rfl rfl (Nat.le_of_ble_eq_true rfl) dX7_set_23 (fun v_17 h_16 e_v_17 => ?_)
      exact s_iret F dX7_set_26
  · refine s_ldc F (v := (-1000001)) dX7_set_7 m280 ?_
    exact s_iret F dX7_set_9
theorem dX7_copy_0 : decode cX7_copy 0 = .ok (.iload_n 1, 1) := by decide +kernel
theorem dX7_copy_1 : decode cX7_copy 1 = .ok (.invokestatic 64, 3) := by decide +kernel
theorem dX7_copy_4 : decode cX7_copy 4 = .ok (.ifCond .eq 10, 3) := by decide +kernel
theorem dX7_copy_7 : decode cX7_copy 7 = .ok (.iload_n 3, 1) := by decide +kernel
theorem dX7_copy_8 : decode cX7_copy 8 = .ok (.invokestatic 64, 3) := by decide +kernel
theorem dX7_copy_11 : decode cX7_copy 11 = .ok (.ifCond .ne 6, 3) := by decide +kernel
theorem dX7_copy_14 : decode cX7_copy 14 = .ok (.ldc 68, 2) := by decide +kernel
theorem dX7_copy_16 : decode cX7_copy 16 = .ok (.ireturn, 1) := by decide +kernel
theorem dX7_copy_17 : decode cX7_copy 17 = .ok (.aload_n 0, 1) := by decide +kernel
theorem dX7_copy_18 : decode cX7_copy 18 = .ok (.getfield 10, 3) := by decide +kernel
theorem dX7_copy_21 : decode cX7_copy 21 = .ok (.iload_n 1, 1) := by decide +kernel
theorem dX7_copy_22 : decode cX7_copy 22 = .ok (.invokevirtual 80, 3) := by decide +kernel
theorem dX7_copy_25 : decode cX7_copy 25 = .ok (.ifCond .ne 14, 3) := by decide +kernel
theorem dX7_copy_28 : decode cX7_copy 28 = .ok (.aload_n 0, 1) := by decide +kernel
theorem dX7_copy_29 : decode cX7_copy 29 = .ok (.getfield 10, 3) := by decide +kernel
theorem dX7_copy_32 : decode cX7_copy 32 = .ok (.iload_n 3, 1) := by decide +kernel
theorem dX7_copy_33 : decode cX7_copy 33 = .ok (.invokevirtual 80, 3) := by decide +kernel
theorem dX7_copy_36 : decode cX7_copy 36 = .ok (.ifCond .eq 9, 3) := by decide +kernel
theorem dX7_copy_39 : decode cX7_copy 39 = .ok (.aload_n 0, 1) := by decide +kernel
theorem dX7_copy_40 : decode cX7_copy 40 = .ok (.iconst 1, 1) := by decide +kernel
theorem dX7_copy_41 : decode cX7_copy 41 = .ok (.invokevirtual 69, 3) := by decide +kernel
theorem dX7_copy_44 : decode cX7_copy 44 = .ok (.ireturn, 1) := by decide +kernel
theorem dX7_copy_45 : decode cX7_copy 45 = .ok (.aload_n 0, 1) := by decide +kernel
theorem dX7_copy_46 : decode cX7_copy 46 = .ok (.getfield 10, 3) := by decide +kernel
theorem dX7_copy_49 : decode cX7_copy 49 = .ok (.iload_n 1, 1) := by decide +kernel
theorem dX7_copy_50 : decode cX7_copy 50 = .ok (.invokevirtual 91, 3) := by decide +kernel
theorem dX7_copy_53 : decode cX7_copy 53 = .ok (.aload_n 0, 1) := by decide +kernel
theorem dX7_copy_54 : decode cX7_copy 54 = .ok (.getfield 10, 3) := by decide +kernel
theorem dX7_copy_57 : decode cX7_copy 57 = .ok (.iload_n 3, 1) := by decide +kernel
theorem dX7_copy_58 : decode cX7_copy 58 = .ok (.invokevirtual 91, 3) := by decide +kernel
theorem dX7_copy_61 : decode cX7_copy 61 = .ok (.if_icmp .eq 9, 3) := by decide +kernel
theorem dX7_copy_64 : decode cX7_copy 64 = .ok (.aload_n 0, 1) := by decide +kernel
theorem dX7_copy_65 : decode cX7_copy 65 = .ok (.iconst 5, 1) := by decide +kernel
theorem dX7_copy_66 : decode cX7_copy 66 = .ok (.invokevirtual 69, 3) := by decide +kernel
theorem dX7_copy_69 : decode cX7_copy 69 = .ok (.ireturn, 1) := by decide +kernel
theorem dX7_copy_70 : decode cX7_copy 70 = .ok (.aload_n 0, 1) := by decide +kernel
theorem dX7_copy_71 : decode cX7_copy 71 = .ok (.getfield 10, 3) := by decide +kernel
theorem dX7_copy_74 : decode cX7_copy 74 = .ok (.iload_n 1, 1) := by decide +kernel
theorem dX7_copy_75 : decode cX7_copy 75 = .ok (.iload_n 2, 1) := by decide +kernel
theorem dX7_copy_76 : decode cX7_copy 76 = .ok (.iload 5, 2) := by decide +kernel
theorem dX7_copy_78 : decode cX7_copy 78 = .ok (.invokevirtual 83, 3) := by decide +kernel
theorem dX7_copy_81 : decode cX7_copy 81 = .ok (.ifCond .eq 18, 3) := by decide +kernel
theorem dX7_copy_84 : decode cX7_copy 84 = .ok (.aload_n 0, 1) := by decide +kernel
theorem dX7_copy_85 : decode cX7_copy 85 = .ok (.getfield 10, 3) := by decide +kernel
theorem dX7_copy_88 : decode cX7_copy 88 = .ok (.iload_n 3, 1) := by decide +kernel
theorem dX7_copy_89 : decode cX7_copy 89 = .ok (.iload 4, 2) := by decide +kernel
theorem dX7_copy_91 : decode cX7_copy 91 = .ok (.iload 5, 2) := by decide +kernel
theorem dX7_copy_93 : decode cX7_copy 93 = .ok (.invokevirtual 83, 3) := by decide +kernel
theorem dX7_copy_96 : decode cX7_copy 96 = .ok (.ifCond .ne 9, 3) := by decide +kernel
theorem dX7_copy_99 : decode cX7_copy 99 = .ok (.aload_n 0, 1) := by decide +kernel
theorem dX7_copy_100 : decode cX7_copy 100 = .ok (.iconst 2, 1) := by decide +kernel
theorem dX7_copy_101 : decode cX7_copy 101 = .ok (.invokevirtual 69, 3) := by decide +kernel
theorem dX7_copy_104 : decode cX7_copy 104 = .ok (.ireturn, 1) := by decide +kernel
theorem dX7_copy_105 : decode cX7_copy 105 = .ok (.aload_n 0, 1) := by decide +kernel
theorem dX7_copy_106 : decode cX7_copy 106 = .ok (.getfield 10, 3) := by decide +kernel
theorem dX7_copy_109 : decode cX7_copy 109 = .ok (.iload_n 1, 1) := by decide +kernel
theorem dX7_copy_110 : decode cX7_copy 110 = .ok (.iload_n 2, 1) := by decide +kernel
theorem dX7_copy_111 : decode cX7_copy 111 = .ok (.iload_n 3, 1) := by decide +kernel
theorem dX7_copy_112 : decode cX7_copy 112 = .ok (.iload 4, 2) := by decide +kernel
theorem dX7_copy_114 : decode cX7_copy 114 = .ok (.iload 5, 2) := by decide +kernel
theorem dX7_copy_116 : decode cX7_copy 116 = .ok (.invokevirtual 94, 3) := by decide +kernel
theorem dX7_copy_119 : decode cX7_copy 119 = .ok (.aload_n 0, 1) := by decide +kernel
theorem dX7_copy_120 : decode cX7_copy 120 = .ok (.iload 5, 2) := by decide +kernel
theorem dX7_copy_122 : decode cX7_copy 122 = .ok (.invokevirtual 77, 3) := by decide +kernel
theorem dX7_copy_125 : decode cX7_copy 125 = .ok (.ireturn, 1) := by decide +kernel
theorem yv_X7_copy : YV yX7_copy cX7_copy 6 (some .int) 5 := ⟨m314, m315, m1, m316, ⟨by decide +kernel, by decide +kernel, by decide +kernel⟩, by decide⟩
noncomputable def f_X7_copy (q : Nat) (x1 : Int32) (x2 : Int32) (x3 : Int32) (x4 : Int32) (x5 : Int32) (h : AH) : Option (Int32 × AH) := bd (f_X5_isRow x1 h) (fun v_2 h_1 => if v_2 = 0 then (some ((-1000001), h_1)) else (bd (f_X5_isRow x3 h_1) (fun v_4 h_3 => if v_4 = 0 then (some ((-1000001), h_3)) else (bd (f_X5_isMissing (q + 1) x1 h_3) (fun v_7 h_6 => if v_7 = 0 then (bd (f_X5_isMissing (q + 1) x3 h_6) (fun v_12 h_11 => if v_12 = 0 then (bd (f_X5_laneOf (q + 1) x1 h_11) (fun v_15 h_14 => bd (f_X5_laneOf (q + 1) x3 h_14) (fun v_18 h_17 => if v_15 = v_18 then (bd (f_X5_hasPlaces (q + 1) x1 x2 x5 h_17) (fun v_21 h_20 => if v_21 = 0 then (bd (f_X7_found q 2 h_20) (fun v_23 h_22 => some (v_23, h_22))) else (bd (f_X5_hasPlaces (q + 1) x3 x4 x5 h_20) (fun v_26 h_25 => if v_26 = 0 then (bd (f_X7_found q 2 h_25) (fun v_33 h_32 => some (v_33, h_32))) else (bd (f_X5_move (q + 1) x1 x2 x3 x4 x5 h_25) (fun _ h_28 => bd (f_X7_unfound q x5 h_28) (fun v_31 h_30 => some (v_31, h_30)))))))) else (bd (f_X7_found q 5 h_17) (fun v_35 h_34 => some (v_35, h_34)))))) else (bd (f_X7_found q 1 h_11) (fun v_37 h_36 => some (v_37, h_36))))) else (bd (f_X7_found q 1 h_6) (fun v_9 h_8 => some (v_9, h_8))))))))
set_option maxRecDepth 20000 in
set_option maxHeartbeats 4000000 in
theorem ct_X7_copy (l : Launch) (g : GC) {q : Nat} (hq : (gL g)[q]? = some (.inl 7)) (x1 : Int32) (x2 : Int32) (x3 : Int32) (x4 : Int32) (x5 : Int32) : Ct l yX7_copy cX7_copy 6 (some .int) 2 [.ref (gad g q), .int x1, .int x2, .int x3, .int x4, .int x5] g mkI (fun h => f_X7_copy q x1 x2 x3 x4 x5 h) := by
  refine Ct.of (by decide +kernel) (Nat.le_of_ble_eq_true rfl) (fun z A h _ F => ?_)
  show Snd z 6 g A (QF z g A mkI) 0 [(0, .ref (gad g q)), (1, .int x1), (2, .int x2), (3, .int x3), (4, .int x4), (5, .int x5)] [] h (f_X7_copy q x1 x2 x3 x4 x5 h)
  unfold f_X7_copy
  refine s_iload_n F dX7_copy_0 rfl 1 rfl ?_
  refine s_callSi (f := fun hh => f_X5_isRow x1 hh) (As := [.int x1]) F ys_X5_isRow (ct_X5_isRow z.2.1 g x1) (by decide) m277 rfl rfl (Nat.le_of_ble_eq_true rfl) dX7_copy_1 (fun v_2 h_1 e_v_2 => ?_)
  refine s_if_eq F 14 dX7_copy_4 (by decide) (fun _ => ?_) (fun _ => ?_)
  · refine s_ldc F (v := (-1000001)) dX7_copy_14 m280 ?_
    exact s_iret F dX7_copy_16
  · refine s_iload_n F dX7_copy_7 rfl 3 rfl ?_
    refine s_callSi (f := fun hh => f_X5_isRow x3 hh) (As := [.int x3]) F ys_X5_isRow (ct_X5_isRow z.2.1 g x3) (by decide) m277 rfl rfl (Nat.le_of_ble_eq_true rfl) dX7_copy_8 (fun v_4 h_3 e_v_4 => ?_)
    refine s_if_ne F 17 dX7_copy_11 (by decide) (fun _ => ?_) (fun _ => ?_)
    · refine s_aload_n F dX7_copy_17 rfl 0 rfl ?_
      have hw_5 := wf_ref F.2.2.2.2.2.2.1 hq 0 1 (.inl 5) rfl
      refine s_getr F ciX7 0 1 (.inl 5) hq (by decide) rfl rfl m239 dX7_copy_18 ?_
      refine s_iload_n F dX7_copy_21 rfl 1 rfl ?_
      refine s_callVi (f := fun hh => f_X5_isMissing (q + 1) x1 hh) (As := [.int x1]) F yv_X5_isMissing (ct_X5_isMissing z.2.1 g hw_5 x1) (by decide) m298 hw_5 rfl rfl rfl (Nat.le_of_ble_eq_true rfl) dX7_copy_22 (fun v_7 h_6 e_v_7 => ?_)
      refine s_if_ne F 39 dX7_copy_25 (by decide) (fun _ => ?_) (fun _ => ?_)
      · refine s_aload_n F dX7_copy_39 rfl 0 rfl ?_
        refine s_iconst F (v := 1) dX7_copy_40 (by decide) ?_
        refine s_callVi (f := fun hh => f_X7_found q 1 hh) (As := [.int 1]) F yv_X7_found (ct_X7_found z.2.1 g hq 1) (by decide) m281 hq rfl rfl rfl (Nat.le_of_ble_eq_true rfl) dX7_copy_41 (fun v_9 h_8 e_v_9 => ?_)
        exact s_iret F dX7_copy_44
      · refine s_aload_n F dX7_copy_28 rfl 0 rfl ?_
        have hw_10 := wf_ref F.2.2.2.2.2.2.1 hq 0 1 (.inl 5) rfl
        refine s_getr F ciX7 0 1 (.inl 5) hq (by decide) rfl rfl m239 dX7_copy_29 ?_
        refine s_iload_n F dX7_copy_32 rfl 3 rfl ?_
        refine s_callVi (f := fun hh => f_X5_isMissing (q + 1) x3 hh) (As := [.int x3]) F yv_X5_isMissing (ct_X5_isMissing z.2.1 g hw_10 x3) (by decide) m298 hw_10 rfl rfl rfl (Nat.le_of_ble_eq_true rfl) dX7_copy_33 (fun v_12 h_11 e_v_12 => ?_)
        refine s_if_eq F 45 dX7_copy_36 (by decide) (fun _ => ?_) (fun _ => ?_)
        · refine s_aload_n F dX7_copy_45 rfl 0 rfl ?_
          have hw_13 := wf_ref F.2.2.2.2.2.2.1 hq 0 1 (.inl 5) rfl
          refine s_getr F ciX7 0 1 (.inl 5) hq (by decide) rfl rfl m239 dX7_copy_46 ?_
          refine s_iload_n F dX7_copy_49 rfl 1 rfl ?_
          refine s_callVi (f := fun hh => f_X5_laneOf (q + 1) x1 hh) (As := [.int x1]) F yv_X5_laneOf (ct_X5_laneOf z.2.1 g hw_13 x1) (by decide) m317 hw_13 rfl rfl rfl (Nat.le_of_ble_eq_true rfl) dX7_copy_50 (fun v_15 h_14 e_v_15 => ?_)
          refine s_aload_n F dX7_copy_53 rfl 0 rfl ?_
          have hw_16 := wf_ref F.2.2.2.2.2.2.1 hq 0 1 (.inl 5) rfl
          refine s_getr F ciX7 0 1 (.inl 5) hq (by decide) rfl rfl m239 dX7_copy_54 ?_
          refine s_iload_n F dX7_copy_57 rfl 3 rfl ?_
          refine s_callVi (f := fun hh => f_X5_laneOf (q + 1) x3 hh) (As := [.int x3]) F yv_X5_laneOf (ct_X5_laneOf z.2.1 g hw_16 x3) (by decide) m317 hw_16 rfl rfl rfl (Nat.le_of_ble_eq_true rfl) dX7_copy_58 (fun v_18 h_17 e_v_18 => ?_)
          refine s_icmp_eq F 70 dX7_copy_61 (by decide) (fun _ => ?_) (fun _ => ?_)
          · refine s_aload_n F dX7_copy_70 rfl 0 rfl ?_
            have hw_19 := wf_ref F.2.2.2.2.2.2.1 hq 0 1 (.inl 5) rfl
            refine s_getr F ciX7 0 1 (.inl 5) hq (by decide) rfl rfl m239 dX7_copy_71 ?_
            refine s_iload_n F dX7_copy_74 rfl 1 rfl ?_
            refine s_iload_n F dX7_copy_75 rfl 2 rfl ?_
            refine s_iload F dX7_copy_76 5 rfl ?_
            refine s_callVi (f := fun hh => f_X5_hasPlaces (q + 1) x1 x2 x5 hh) (As := [.int x1, .int x2, .int x5]) F yv_X5_hasPlaces (ct_X5_hasPlaces z.2.1 g hw_19 x1 x2 x5) (by decide) m302 hw_19 rfl rfl rfl (Nat.le_of_ble_eq_true rfl) dX7_copy_78 (fun v_21 h_20 e_v_21 => ?_)
            refine s_if_eq F 99 dX7_copy_81 (by decide) (fun _ => ?_) (fun _ => ?_)
            · refine s_aload_n F dX7_copy_99 rfl 0 rfl ?_
              refine s_iconst F (v := 2) dX7_copy_100 (by decide) ?_
              refine s_callVi (f := fun hh => f_X7_found q 2 hh) (As := [.int 2]) F yv_X7_found (ct_X7_found z.2.1 g hq 2) (by decide) m281 hq rfl rfl rfl (Nat.le_of_ble_eq_true rfl) dX7_copy_101 (fun v_23 h_22 e_v_23 => ?_)
              exact s_iret F dX7_copy_104
            · refine s_aload_n F dX7_copy_84 rfl 0 rfl ?_
              have hw_24 := wf_ref F.2.2.2.2.2.2.1 hq 0 1 (.inl 5) rfl
              refine s_getr F ciX7 0 1 (.inl 5) hq (by decide) rfl rfl m239 dX7_copy_85 ?_
              refine s_iload_n F dX7_copy_88 rfl 3 rfl ?_
              refine s_iload F dX7_copy_89 4 rfl ?_
              refine s_iload F dX7_copy_91 5 rfl ?_
              refine s_callVi (f := fun hh => f_X5_hasPlaces (q + 1) x3 x4 x5 hh) (As := [.int x3, .int x4, .int x5]) F yv_X5_hasPlaces (ct_X5_hasPlaces z.2.1 g hw_24 x3 x4 x5) (by decide) m302 hw_24 rfl rfl rfl (Nat.le_of_ble_eq_true rfl) dX7_copy_93 (fun v_26 h_25 e_v_26 => ?_)
              refine s_if_ne F 105 dX7_copy_96 (by decide) (fun _ => ?_) (fun _ => ?_)
              · refine s_aload_n F dX7_copy_105 rfl 0 rfl ?_
                have hw_27 := wf_ref F.2.2.2.2.2.2.1 hq 0 1 (.inl 5) rfl
                refine s_getr F ciX7 0 1 (.inl 5) hq (by decide) rfl rfl m239 dX7_copy_106 ?_
                refine s_iload_n F dX7_copy_109 rfl 1 rfl ?_
                refine s_iload_n F dX7_copy_110 rfl 2 rfl ?_
                refine s_iload_n F dX7_copy_111 rfl 3 rfl ?_
                refine s_iload F dX7_copy_112 4 rfl ?_
                refine s_iload F dX7_copy_114 5 rfl ?_
                refine s_callVu (f := fun hh => f_X5_move (q + 1) x1 x2 x3 x4 x5 hh) (As := [.int x1, .int x2, .int x3, .int x4, .int x5]) F yv_X5_move (ct_X5_move z.2.1 g hw_27 x1 x2 x3 x4 x5) (by decide) m321 hw_27 rfl rfl rfl (Nat.le_of_ble_eq_true rfl) dX7_copy_116 (fun _ h_28 e_v_29 => ?_)
                refine s_aload_n F dX7_copy_119 rfl 0 rfl ?_
                refine s_iload F dX7_copy_120 5 rfl ?_
                refine s_callVi (f := fun hh => f_X7_unfound q x5 hh) (As := [.int x5]) F yv_X7_unfound (ct_X7_unfound z.2.1 g hq x5) (by decide) m290 hq rfl rfl rfl (Nat.le_of_ble_eq_true rfl) dX7_copy_122 (fun v_31 h_30 e_v_31 => ?_)
                exact s_iret F dX7_copy_125
              · refine s_aload_n F dX7_copy_99 rfl 0 rfl ?_
                refine s_iconst F (v := 2) dX7_copy_100 (by decide) ?_
                refine s_callVi (f := fun hh => f_X7_found q 2 hh) (As := [.int 2]) F yv_X7_found (ct_X7_found z.2.1 g hq 2) (by decide) m281 hq rfl rfl rfl (Nat.le_of_ble_eq_true rfl) dX7_copy_101 (fun v_33 h_32 e_v_33 => ?_)
                exact s_iret F dX7_copy_104
          · refine s_aload_n F dX7_copy_64 rfl 0 rfl ?_
            refine s_iconst F (v := 5) dX7_copy_65 (by decide) ?_
            refine s_callVi (f := fun hh => f_X7_found q 5 hh) (As := [.int 5]) F yv_X7_found (ct_X7_found z.2.1 g hq 5) (by decide) m281 hq rfl rfl rfl (Nat.le_of_ble_eq_true rfl) dX7_copy_66 (fun v_35 h_34 e_v_35 => ?_)
            exact s_iret F dX7_copy_69
        · refine s_aload_n F dX7_copy_39 rfl 0 rfl ?_
          refine s_iconst F (v := 1) dX7_copy_40 (by decide) ?_
          refine s_callVi (f := fun hh => f_X7_found q 1 hh) (As := [.int 1]) F yv_X7_found (ct_X7_found z.2.1 g hq 1) (by decide) m281 hq rfl rfl rfl (Nat.le_of_ble_eq_true rfl) dX7_copy_41 (fun v_37 h_36 e_v_37 => ?_)
          exact s_iret F dX7_copy_44
    · refine s_ldc F (v := (-1000001)) dX7_copy_14 m280 ?_
      exact s_iret F dX7_copy_16
theorem dX7_drop_0 : decode cX7_drop 0 = .ok (.iload_n 1, 1) := by decide +kernel
theorem dX7_drop_1 : decode cX7_drop 1 = .ok (.invokestatic 64, 3) := by decide +kernel
theorem dX7_drop_4 : decode cX7_drop 4 = .ok (.ifCond .ne 6, 3) := by decide +kernel
theorem dX7_drop_7 : decode cX7_drop 7 = .ok (.ldc 68, 2) := by decide +kernel
theorem dX7_drop_9 : decode cX7_drop 9 = .ok (.ireturn, 1) := by decide +kernel
theorem dX7_drop_10 : decode cX7_drop 10 = .ok (.aload_n 0, 1) := by decide +kernel
theorem dX7_drop_11 : decode cX7_drop 11 = .ok (.getfield 10, 3) := by decide +kernel
theorem dX7_drop_14 : decode cX7_drop 14 = .ok (.iload_n 1, 1) := by decide +kernel
theorem dX7_drop_15 : decode cX7_drop 15 = .ok (.invokevirtual 80, 3) := by decide +kernel
theorem dX7_drop_18 : decode cX7_drop 18 = .ok (.ifCond .eq 9, 3) := by decide +kernel
theorem dX7_drop_21 : decode cX7_drop 21 = .ok (.aload_n 0, 1) := by decide +kernel
theorem dX7_drop_22 : decode cX7_drop 22 = .ok (.iconst 1, 1) := by decide +kernel
theorem dX7_drop_23 : decode cX7_drop 23 = .ok (.invokevirtual 69, 3) := by decide +kernel
theorem dX7_drop_26 : decode cX7_drop 26 = .ok (.ireturn, 1) := by decide +kernel
theorem dX7_drop_27 : decode cX7_drop 27 = .ok (.aload_n 0, 1) := by decide +kernel
theorem dX7_drop_28 : decode cX7_drop 28 = .ok (.aload_n 0, 1) := by decide +kernel
theorem dX7_drop_29 : decode cX7_drop 29 = .ok (.getfield 10, 3) := by decide +kernel
theorem dX7_drop_32 : decode cX7_drop 32 = .ok (.iload_n 1, 1) := by decide +kernel
theorem dX7_drop_33 : decode cX7_drop 33 = .ok (.invokevirtual 98, 3) := by decide +kernel
theorem dX7_drop_36 : decode cX7_drop 36 = .ok (.invokevirtual 77, 3) := by decide +kernel
theorem dX7_drop_39 : decode cX7_drop 39 = .ok (.ireturn, 1) := by decide +kernel
theorem yv_X7_drop : YV yX7_drop cX7_drop 2 (some .int) 1 := ⟨m329, m330, m1, m331, ⟨by decide +kernel, by decide +kernel, by decide +kernel⟩, by decide⟩
noncomputable def f_X7_drop (q : Nat) (x1 : Int32) (h : AH) : Option (Int32 × AH) := bd (f_X5_isRow x1 h) (fun v_2 h_1 => if v_2 = 0 then (some ((-1000001), h_1)) else (bd (f_X5_isMissing (q + 1) x1 h_1) (fun v_5 h_4 => if v_5 = 0 then (bd (f_X5_remove (q + 1) x1 h_4) (fun v_8 h_7 => bd (f_X7_unfound q v_8 h_7) (fun v_10 h_9 => some (v_10, h_9)))) else (bd (f_X7_found q 1 h_4) (fun v_12 h_11 => some (v_12, h_11))))))
set_option maxRecDepth 20000 in
set_option maxHeartbeats 4000000 in
theorem ct_X7_drop (l : Launch) (g : GC) {q : Nat} (hq : (gL g)[q]? = some (.inl 7)) (x1 : Int32) : Ct l yX7_drop cX7_drop 2 (some .int) 2 [.ref (gad g q), .int x1] g mkI (fun h => f_X7_drop q x1 h) := by
  refine Ct.of (by decide +kernel) (Nat.le_of_ble_eq_true rfl) (fun z A h _ F => ?_)
  show Snd z 2 g A (QF z g A mkI) 0 [(0, .ref (gad g q)), (1, .int x1)] [] h (f_X7_drop q x1 h)
  unfold f_X7_drop
  refine s_iload_n F dX7_drop_0 rfl 1 rfl ?_
  refine s_callSi (f := fun hh => f_X5_isRow x1 hh) (As := [.int x1]) F ys_X5_isRow (ct_X5_isRow z.2.1 g x1) (by decide) m277 rfl rfl (Nat.le_of_ble_eq_true rfl) dX7_drop_1 (fun v_2 h_1 e_v_2 => ?_)
  refine s_if_ne F 10 dX7_drop_4 (by decide) (fun _ => ?_) (fun _ => ?_)
  · refine s_aload_n F dX7_drop_10 rfl 0 rfl ?_
    have hw_3 := wf_ref F.2.2.2.2.2.2.1 hq 0 1 (.inl 5) rfl
    refine s_getr F ciX7 0 1 (.inl 5) hq (by decide) rfl rfl m239 dX7_drop_11 ?_
    refine s_iload_n F dX7_drop_14 rfl 1 rfl ?_
    refine s_callVi (f := fun hh => f_X5_isMissing (q + 1) x1 hh) (As := [.int x1]) F yv_X5_isMissing (ct_X5_isMissing z.2.1 g hw_3 x1) (by decide) m298 hw_3 rfl rfl rfl (Nat.le_of_ble_eq_true rfl) dX7_drop_15 (fun v_5 h_4 e_v_5 => ?_)
    refine s_if_eq F 27 dX7_drop_18 (by decide) (fun _ => ?_) (fun _ => ?_)
    · refine s_aload_n F dX7_drop_27 rfl 0 rfl ?_
      refine s_aload_n F dX7_drop_28 rfl 0 rfl ?_
      have hw_6 := wf_ref F.2.2.2.2.2.2.1 hq 0 1 (.inl 5) rfl
      refine s_getr F ciX7 0 1 (.inl 5) hq (by decide) rfl rfl m239 dX7_drop_29 ?_
      refine s_iload_n F dX7_drop_32 rfl 1 rfl ?_
      refine s_callVi (f := fun hh => f_X5_remove (q + 1) x1 hh) (As := [.int x1]) F yv_X5_remove (ct_X5_remove z.2.1 g hw_6 x1) (by decide) m332 hw_6 rfl rfl rfl (Nat.le_of_ble_eq_true rfl) dX7_drop_33 (fun v_8 h_7 e_v_8 => ?_)
      refine s_callVi (f := fun hh => f_X7_unfound q v_8 hh) (As := [.int v_8]) F yv_X7_unfound (ct_X7_unfound z.2.1 g hq v_8) (by decide) m290 hq rfl rfl rfl (Nat.le_of_ble_eq_true rfl) dX7_drop_36 (fun v_10 h_9 e_v_10 => ?_)
      exact s_iret F dX7_drop_39
    · refine s_aload_n F dX7_drop_21 rfl 0 rfl ?_
      refine s_iconst F (v := 1) dX7_drop_22 (by decide) ?_
      refine s_callVi (f := fun hh => f_X7_found q 1 hh) (As := [.int 1]) F yv_X7_found (ct_X7_found z.2.1 g hq 1) (by decide) m281 hq rfl rfl rfl (Nat.le_of_ble_eq_true rfl) dX7_drop_23 (fun v_12 h_11 e_v_12 => ?_)
      exact s_iret F dX7_drop_26
  · refine s_ldc F (v := (-1000001)) dX7_drop_7 m280 ?_
    exact s_iret F dX7_drop_9
theorem dX7_feed_0 : decode cX7_feed 0 = .ok (.iload_n 3, 1) := by decide +kernel
theorem dX7_feed_1 : decode cX7_feed 1 = .ok (.iconst 1, 1) := by decide +kernel
theorem dX7_feed_2 : decode cX7_feed 2 = .ok (.if_icmp .lt 9, 3) := by decide +kernel
theorem dX7_feed_5 : decode cX7_feed 5 = .ok (.iload_n 3, 1) := by decide +kernel
theorem dX7_feed_6 : decode cX7_feed 6 = .ok (.bipush 8, 2) := by decide +kernel
theorem dX7_feed_8 : decode cX7_feed 8 = .ok (.if_icmp .le 6, 3) := by decide +kernel
theorem dX7_feed_11 : decode cX7_feed 11 = .ok (.ldc 68, 2) := by decide +kernel
theorem dX7_feed_13 : decode cX7_feed 13 = .ok (.ireturn, 1) := by decide +kernel
theorem dX7_feed_14 : decode cX7_feed 14 = .ok (.aload_n 0, 1) := by decide +kernel
theorem dX7_feed_15 : decode cX7_feed 15 = .ok (.getfield 19, 3) := by decide +kernel
theorem dX7_feed_18 : decode cX7_feed 18 = .ok (.lload_n 1, 1) := by decide +kernel
theorem dX7_feed_19 : decode cX7_feed 19 = .ok (.iload_n 3, 1) := by decide +kernel
theorem dX7_feed_20 : decode cX7_feed 20 = .ok (.invokevirtual 101, 3) := by decide +kernel
theorem dX7_feed_23 : decode cX7_feed 23 = .ok (.ifCond .eq 13, 3) := by decide +kernel
theorem dX7_feed_26 : decode cX7_feed 26 = .ok (.aload_n 0, 1) := by decide +kernel
theorem dX7_feed_27 : decode cX7_feed 27 = .ok (.getfield 19, 3) := by decide +kernel
theorem dX7_feed_30 : decode cX7_feed 30 = .ok (.invokevirtual 105, 3) := by decide +kernel
theorem dX7_feed_33 : decode cX7_feed 33 = .ok (.goto 5, 3) := by decide +kernel
theorem dX7_feed_36 : decode cX7_feed 36 = .ok (.ldc 109, 2) := by decide +kernel
theorem dX7_feed_38 : decode cX7_feed 38 = .ok (.ireturn, 1) := by decide +kernel
theorem yv_X7_feed : YV yX7_feed cX7_feed 4 (some .int) 2 := ⟨m337, m338, m1, m339, ⟨by decide +kernel, by decide +kernel, by decide +kernel⟩, by decide⟩
noncomputable def f_X7_feed (q : Nat) (x1 : Int64) (x3 : Int32) (h : AH) : Option (Int32 × AH) := if x3 < 1 then (some ((-1000001), h)) else (if x3 ≤ 8 then (bd (f_X6_append (q + 5) x1 x3 h) (fun v_3 h_2 => if v_3 = 0 then (some ((-1000003), h_2)) else (bd (f_X6_size (q + 5) h_2) (fun v_6 h_5 => some (v_6, h_5))))) else (some ((-1000001), h)))
set_option maxRecDepth 20000 in
set_option maxHeartbeats 4000000 in
theorem ct_X7_feed (l : Launch) (g : GC) {q : Nat} (hq : (gL g)[q]? = some (.inl 7)) (x1 : Int64) (x3 : Int32) : Ct l yX7_feed cX7_feed 4 (some .int) 2 [.ref (gad g q), .long x1, .int x3] g mkI (fun h => f_X7_feed q x1 x3 h) := by
  refine Ct.of (by decide +kernel) (Nat.le_of_ble_eq_true rfl) (fun z A h _ F => ?_)
  show Snd z 4 g A (QF z g A mkI) 0 [(0, .ref (gad g q)), (1, .long x1), (3, .int x3)] [] h (f_X7_feed q x1 x3 h)
  unfold f_X7_feed
  refine s_iload_n F dX7_feed_0 rfl 2 rfl ?_
  refine s_iconst F (v := 1) dX7_feed_1 (by decide) ?_
  refine s_icmp_lt F 11 dX7_feed_2 (by decide) (fun _ => ?_) (fun _ => ?_)
  · refine s_ldc F (v := (-1000001)) dX7_feed_11 m280 ?_
    exact s_iret F dX7_feed_13
  · refine s_iload_n F dX7_feed_5 rfl 2 rfl ?_
    refine s_bipush F (v := 8) dX7_feed_6 (by decide) ?_
    refine s_icmp_le F 14 dX7_feed_8 (by decide) (fun _ => ?_) (fun _ => ?_)
    · refine s_aload_n F dX7_feed_14 rfl 0 rfl ?_
      have hw_1 := wf_ref F.2.2.2.2.2.2.1 hq 1 5 (.inl 6) rfl
      refine s_getr F ciX7 1 5 (.inl 6) hq (by decide) rfl rfl m240 dX7_feed_15 ?_
      refine s_lload_n F dX7_feed_18 rfl 1 rfl ?_
      refine s_iload_n F dX7_feed_19 rfl 2 rfl ?_
      refine s_callVi (f := fun hh => f_X6_append (q + 5) x1 x3 hh) (As := [.long x1, .int x3]) F yv_X6_append (ct_X6_append z.2.1 g hw_1 x1 x3) (by decide) m340 hw_1 rfl rfl rfl (Nat.le_of_ble_eq_true rfl) dX7_feed_20 (fun v_3 h_2 e_v_3 => ?_)
      refine s_if_eq F 36 dX7_feed_23 (by decide) (fun _ => ?_) (fun _ => ?_)
      · refine s_ldc F (v := (-1000003)) dX7_feed_36 m348 ?_
        exact s_iret F dX7_feed_38
      · refine s_aload_n F dX7_feed_26 rfl 0 rfl ?_
        have hw_4 := wf_ref F.2.2.2.2.2.2.1 hq 1 5 (.inl 6) rfl
        refine s_getr F ciX7 1 5 (.inl 6) hq (by decide) rfl rfl m240 dX7_feed_27 ?_
        refine s_callVi (f := fun hh => f_X6_size (q + 5) hh) (As := []) F yv_X6_size (ct_X6_size z.2.1 g hw_4) (by decide) m344 hw_4 rfl rfl rfl (Nat.le_of_ble_eq_true rfl) dX7_feed_30 (fun v_6 h_5 e_v_6 => ?_)
        refine s_goto F 38 dX7_feed_33 (by decide) ?_
        exact s_iret F dX7_feed_38
    · refine s_ldc F (v := (-1000001)) dX7_feed_11 m280 ?_
      exact s_iret F dX7_feed_13
theorem dX7_bridge_0 : decode cX7_bridge 0 = .ok (.aload_n 0, 1) := by decide +kernel
theorem dX7_bridge_1 : decode cX7_bridge 1 = .ok (.getfield 26, 3) := by decide +kernel
theorem dX7_bridge_4 : decode cX7_bridge 4 = .ok (.aload_n 0, 1) := by decide +kernel
theorem dX7_bridge_5 : decode cX7_bridge 5 = .ok (.getfield 19, 3) := by decide +kernel
theorem dX7_bridge_8 : decode cX7_bridge 8 = .ok (.invokevirtual 110, 3) := by decide +kernel
theorem dX7_bridge_11 : decode cX7_bridge 11 = .ok (.istore_n 1, 1) := by decide +kernel
theorem dX7_bridge_12 : decode cX7_bridge 12 = .ok (.aload_n 0, 1) := by decide +kernel
theorem dX7_bridge_13 : decode cX7_bridge 13 = .ok (.getfield 19, 3) := by decide +kernel
theorem dX7_bridge_16 : decode cX7_bridge 16 = .ok (.invokevirtual 114, 3) := by decide +kernel
theorem dX7_bridge_19 : decode cX7_bridge 19 = .ok (.istore_n 2, 1) := by decide +kernel
theorem dX7_bridge_20 : decode cX7_bridge 20 = .ok (.aload_n 0, 1) := by decide +kernel
theorem dX7_bridge_21 : decode cX7_bridge 21 = .ok (.getfield 19, 3) := by decide +kernel
theorem dX7_bridge_24 : decode cX7_bridge 24 = .ok (.invokevirtual 117, 3) := by decide +kernel
theorem dX7_bridge_27 : decode cX7_bridge 27 = .ok (.iload_n 1, 1) := by decide +kernel
theorem dX7_bridge_28 : decode cX7_bridge 28 = .ok (.ifCond .ne 19, 3) := by decide +kernel
theorem dX7_bridge_31 : decode cX7_bridge 31 = .ok (.aload_n 0, 1) := by decide +kernel
theorem dX7_bridge_32 : decode cX7_bridge 32 = .ok (.aload_n 0, 1) := by decide +kernel
theorem dX7_bridge_33 : decode cX7_bridge 33 = .ok (.getfield 26, 3) := by decide +kernel
theorem dX7_bridge_36 : decode cX7_bridge 36 = .ok (.invokevirtual 120, 3) := by decide +kernel
theorem dX7_bridge_39 : decode cX7_bridge 39 = .ok (.putfield 123, 3) := by decide +kernel
theorem dX7_bridge_42 : decode cX7_bridge 42 = .ok (.ldc 127, 2) := by decide +kernel
theorem dX7_bridge_44 : decode cX7_bridge 44 = .ok (.iload_n 2, 1) := by decide +kernel
theorem dX7_bridge_45 : decode cX7_bridge 45 = .ok (.isub, 1) := by decide +kernel
theorem dX7_bridge_46 : decode cX7_bridge 46 = .ok (.ireturn, 1) := by decide +kernel
theorem dX7_bridge_47 : decode cX7_bridge 47 = .ok (.aload_n 0, 1) := by decide +kernel
theorem dX7_bridge_48 : decode cX7_bridge 48 = .ok (.getfield 33, 3) := by decide +kernel
theorem dX7_bridge_51 : decode cX7_bridge 51 = .ok (.aload_n 0, 1) := by decide +kernel
theorem dX7_bridge_52 : decode cX7_bridge 52 = .ok (.getfield 26, 3) := by decide +kernel
theorem dX7_bridge_55 : decode cX7_bridge 55 = .ok (.invokevirtual 128, 3) := by decide +kernel
theorem dX7_bridge_58 : decode cX7_bridge 58 = .ok (.invokevirtual 132, 3) := by decide +kernel
theorem dX7_bridge_61 : decode cX7_bridge 61 = .ok (.aload_n 0, 1) := by decide +kernel
theorem dX7_bridge_62 : decode cX7_bridge 62 = .ok (.getfield 46, 3) := by decide +kernel
theorem dX7_bridge_65 : decode cX7_bridge 65 = .ok (.invokevirtual 136, 3) := by decide +kernel
theorem dX7_bridge_68 : decode cX7_bridge 68 = .ok (.aload_n 0, 1) := by decide +kernel
theorem dX7_bridge_69 : decode cX7_bridge 69 = .ok (.getfield 33, 3) := by decide +kernel
theorem dX7_bridge_72 : decode cX7_bridge 72 = .ok (.getfield 139, 3) := by decide +kernel
theorem dX7_bridge_75 : decode cX7_bridge 75 = .ok (.ireturn, 1) := by decide +kernel
theorem yv_X7_bridge : YV yX7_bridge cX7_bridge 3 (some .int) 0 := ⟨m350, m351, m1, m352, ⟨by decide +kernel, by decide +kernel, by decide +kernel⟩, by decide⟩
noncomputable def f_X7_bridge (q : Nat) (h : AH) : Option (Int32 × AH) := bd (f_X4_read (q + 7) (q + 5) h) (fun v_4 h_3 => bd (f_X6_tokenStart (q + 5) h_3) (fun v_7 h_6 => bd (f_X6_clear (q + 5) h_6) (fun _ h_9 => if v_4 = 0 then (bd (f_X4_faultNumber (q + 7) h_9) (fun v_23 h_22 => lt (hset h_22 q 9 v_23) (fun h_24 => some (((-1000100) - v_7), h_24)))) else (bd (f_X4_result (q + 7) h_9) (fun v_14 h_13 => bd (f_X2_become (q + 17) v_14 h_13) (fun _ h_15 => bd (f_X0_forget (q + 44) h_15) (fun _ h_18 => some (h_18 (q + 17) 1, h_18))))))))
set_option maxRecDepth 20000 in
set_option maxHeartbeats 4000000 in
theorem ct_X7_bridge (l : Launch) (g : GC) {q : Nat} (hq : (gL g)[q]? = some (.inl 7)) : Ct l yX7_bridge cX7_bridge 3 (some .int) 10 [.ref (gad g q)] g mkI (fun h => f_X7_bridge q h) := by
  refine Ct.of (by decide +kernel) (Nat.le_of_ble_eq_true rfl) (fun z A h _ F => ?_)
  show Snd z 3 g A (QF z g A mkI) 0 [(0, .ref (gad g q))] [] h (f_X7_bridge q h)
  unfold f_X7_bridge
  refine s_aload_n F dX7_bridge_0 rfl 0 rfl ?_
  have hw_1 := wf_ref F.2.2.2.2.2.2.1 hq 2 7 (.inl 4) rfl
  refine s_getr F ciX7 2 7 (.inl 4) hq (by decide) rfl rfl m241 dX7_bridge_1 ?_
  refine s_aload_n F dX7_bridge_4 rfl 0 rfl ?_
  have hw_2 := wf_ref F.2.2.2.2.2.2.1 hq 1 5 (.inl 6) rfl
  refine s_getr F ciX7 1 5 (.inl 6) hq (by decide) rfl rfl m240 dX7_bridge_5 ?_
  refine s_callVi (f := fun hh => f_X4_read (q + 7) (q + 5) hh) (As := [.ref (gad g (q + 5))]) F yv_X4_read (ct_X4_read z.2.1 g hw_1 hw_2) (by decide) m353 hw_1 rfl rfl rfl (Nat.le_of_ble_eq_true rfl) dX7_bridge_8 (fun v_4 h_3 e_v_4 => ?_)
  refine s_istore_n F (lv' := [(1, .int v_4), (0, .ref (gad g q))]) dX7_bridge_11 rfl (by decide) rfl ?_
  refine s_aload_n F dX7_bridge_12 rfl 1 rfl ?_
  have hw_5 := wf_ref F.2.2.2.2.2.2.1 hq 1 5 (.inl 6) rfl
  refine s_getr F ciX7 1 5 (.inl 6) hq (by decide) rfl rfl m240 dX7_bridge_13 ?_
  refine s_callVi (f := fun hh => f_X6_tokenStart (q + 5) hh) (As := []) F yv_X6_tokenStart (ct_X6_tokenStart z.2.1 g hw_5) (by decide) m497 hw_5 rfl rfl rfl (Nat.le_of_ble_eq_true rfl) dX7_bridge_16 (fun v_7 h_6 e_v_7 => ?_)
  refine s_istore_n F (lv' := [(2, .int v_7), (1, .int v_4), (0, .ref (gad g q))]) dX7_bridge_19 rfl (by decide) rfl ?_
  refine s_aload_n F dX7_bridge_20 rfl 2 rfl ?_
  have hw_8 := wf_ref F.2.2.2.2.2.2.1 hq 1 5 (.inl 6) rfl
  refine s_getr F ciX7 1 5 (.inl 6) hq (by decide) rfl rfl m240 dX7_bridge_21 ?_
  refine s_callVu (f := fun hh => f_X6_clear (q + 5) hh) (As := []) F yv_X6_clear (ct_X6_clear z.2.1 g hw_8) (by decide) m501 hw_8 rfl rfl rfl (Nat.le_of_ble_eq_true rfl) dX7_bridge_24 (fun _ h_9 e_v_10 => ?_)
  refine s_iload_n F dX7_bridge_27 rfl 1 rfl ?_
  refine s_if_ne F 47 dX7_bridge_28 (by decide) (fun _ => ?_) (fun _ => ?_)
  · refine s_aload_n F dX7_bridge_47 rfl 2 rfl ?_
    have hw_11 := wf_ref F.2.2.2.2.2.2.1 hq 3 17 (.inl 2) rfl
    refine s_getr F ciX7 3 17 (.inl 2) hq (by decide) rfl rfl m242 dX7_bridge_48 ?_
    refine s_aload_n F dX7_bridge_51 rfl 2 rfl ?_
    have hw_12 := wf_ref F.2.2.2.2.2.2.1 hq 2 7 (.inl 4) rfl
    refine s_getr F ciX7 2 7 (.inl 4) hq (by decide) rfl rfl m241 dX7_bridge_52 ?_
    refine s_callVr (f := fun hh => f_X4_result (q + 7) hh) (As := []) F yv_X4_result (ct_X4_result z.2.1 g hw_12) (by decide) m510 hw_12 rfl rfl rfl (Nat.le_of_ble_eq_true rfl) dX7_bridge_55 (fun v_14 h_13 e_v_14 => ?_)
    have ho_v_14 := ok_X4_result F.2.2.2.2.2.2.1 hw_12 e_v_14
    refine s_callVu (f := fun hh => f_X2_become (q + 17) v_14 hh) (As := [.ref (gad g v_14)]) F yv_X2_become (ct_X2_become z.2.1 g hw_11 ho_v_14) (by decide) m514 hw_11 rfl rfl rfl (Nat.le_of_ble_eq_true rfl) dX7_bridge_58 (fun _ h_15 e_v_16 => ?_)
    refine s_aload_n F dX7_bridge_61 rfl 2 rfl ?_
    have hw_17 := wf_ref F.2.2.2.2.2.2.1 hq 6 44 (.inl 0) rfl
    refine s_getr F ciX7 6 44 (.inl 0) hq (by decide) rfl rfl m245 dX7_bridge_62 ?_
    refine s_callVu (f := fun hh => f_X0_forget (q + 44) hh) (As := []) F yv_X0_forget (ct_X0_forget z.2.1 g hw_17) (by decide) m519 hw_17 rfl rfl rfl (Nat.le_of_ble_eq_true rfl) dX7_bridge_65 (fun _ h_18 e_v_19 => ?_)
    refine s_aload_n F dX7_bridge_68 rfl 2 rfl ?_
    have hw_20 := wf_ref F.2.2.2.2.2.2.1 hq 3 17 (.inl 2) rfl
    refine s_getr F ciX7 3 17 (.inl 2) hq (by decide) rfl rfl m242 dX7_bridge_69 ?_
    refine s_getiN F ciX2 1 hw_20 (by decide) rfl rfl (List.mem_of_getElem? (i := 0) rfl) dX7_bridge_72 ?_
    exact s_iret F dX7_bridge_75
  · refine s_aload_n F dX7_bridge_31 rfl 2 rfl ?_
    refine s_aload_n F dX7_bridge_32 rfl 2 rfl ?_
    have hw_21 := wf_ref F.2.2.2.2.2.2.1 hq 2 7 (.inl 4) rfl
    refine s_getr F ciX7 2 7 (.inl 4) hq (by decide) rfl rfl m241 dX7_bridge_33 ?_
    refine s_callVi (f := fun hh => f_X4_faultNumber (q + 7) hh) (As := []) F yv_X4_faultNumber (ct_X4_faultNumber z.2.1 g hw_21) (by decide) m505 hw_21 rfl rfl rfl (Nat.le_of_ble_eq_true rfl) dX7_bridge_36 (fun v_23 h_22 e_v_23 => ?_)
    refine s_put F ciX7 (k := 9) hq (by decide) rfl rfl rfl rfl m248 dX7_bridge_39 ?_
    refine s_letH (fun h_24 => ?_)
    refine s_ldc F (v := (-1000100)) dX7_bridge_42 m509 ?_
    refine s_iload_n F dX7_bridge_44 rfl 0 rfl ?_
    refine s_isub F dX7_bridge_45 ?_
    exact s_iret F dX7_bridge_46
theorem dX7_fault_0 : decode cX7_fault 0 = .ok (.aload_n 0, 1) := by decide +kernel
theorem dX7_fault_1 : decode cX7_fault 1 = .ok (.getfield 123, 3) := by decide +kernel
theorem dX7_fault_4 : decode cX7_fault 4 = .ok (.ireturn, 1) := by decide +kernel
theorem yv_X7_fault : YV yX7_fault cX7_fault 1 (some .int) 0 := ⟨m524, m525, m1, m526, ⟨by decide +kernel, by decide +kernel, by decide +kernel⟩, by decide⟩
noncomputable def f_X7_fault (q : Nat) (h : AH) : Option (Int32 × AH) := some (h q 9, h)
set_option maxRecDepth 20000 in
set_option maxHeartbeats 4000000 in
theorem ct_X7_fault (l : Launch) (g : GC) {q : Nat} (hq : (gL g)[q]? = some (.inl 7)) : Ct l yX7_fault cX7_fault 1 (some .int) 1 [.ref (gad g q)] g mkI (fun h => f_X7_fault q h) := by
  refine Ct.of (by decide +kernel) (Nat.le_of_ble_eq_true rfl) (fun z A h _ F => ?_)
  show Snd z 1 g A (QF z g A mkI) 0 [(0, .ref (gad g q))] [] h (f_X7_fault q h)
  unfold f_X7_fault
  refine s_aload_n F dX7_fault_0 rfl 0 rfl ?_
  refine s_geti F ciX7 9 hq (by decide) rfl rfl m248 dX7_fault_1 ?_
  exact s_iret F dX7_fault_4
theorem dX7_lend_0 : decode cX7_lend 0 = .ok (.aload_n 0, 1) := by decide +kernel
theorem dX7_lend_1 : decode cX7_lend 1 = .ok (.getfield 33, 3) := by decide +kernel
theorem dX7_lend_4 : decode cX7_lend 4 = .ok (.iload_n 1, 1) := by decide +kernel
theorem dX7_lend_5 : decode cX7_lend 5 = .ok (.invokevirtual 142, 3) := by decide +kernel
theorem dX7_lend_8 : decode cX7_lend 8 = .ok (.ifCond .eq 21, 3) := by decide +kernel
theorem dX7_lend_11 : decode cX7_lend 11 = .ok (.iload_n 2, 1) := by decide +kernel
theorem dX7_lend_12 : decode cX7_lend 12 = .ok (.ifCond .lt 17, 3) := by decide +kernel
theorem dX7_lend_15 : decode cX7_lend 15 = .ok (.iload_n 2, 1) := by decide +kernel
theorem dX7_lend_16 : decode cX7_lend 16 = .ok (.iconst 1, 1) := by decide +kernel
theorem dX7_lend_17 : decode cX7_lend 17 = .ok (.if_icmp .gt 12, 3) := by decide +kernel
theorem dX7_lend_20 : decode cX7_lend 20 = .ok (.iload_n 3, 1) := by decide +kernel
theorem dX7_lend_21 : decode cX7_lend 21 = .ok (.ifCond .lt 8, 3) := by decide +kernel
theorem dX7_lend_24 : decode cX7_lend 24 = .ok (.iload_n 3, 1) := by decide +kernel
theorem dX7_lend_25 : decode cX7_lend 25 = .ok (.iconst 4, 1) := by decide +kernel
theorem dX7_lend_26 : decode cX7_lend 26 = .ok (.if_icmp .le 6, 3) := by decide +kernel
theorem dX7_lend_29 : decode cX7_lend 29 = .ok (.ldc 68, 2) := by decide +kernel
theorem dX7_lend_31 : decode cX7_lend 31 = .ok (.ireturn, 1) := by decide +kernel
theorem dX7_lend_32 : decode cX7_lend 32 = .ok (.aload_n 0, 1) := by decide +kernel
theorem dX7_lend_33 : decode cX7_lend 33 = .ok (.getfield 33, 3) := by decide +kernel
theorem dX7_lend_36 : decode cX7_lend 36 = .ok (.iload_n 2, 1) := by decide +kernel
theorem dX7_lend_37 : decode cX7_lend 37 = .ok (.iload_n 1, 1) := by decide +kernel
theorem dX7_lend_38 : decode cX7_lend 38 = .ok (.invokevirtual 145, 3) := by decide +kernel
theorem dX7_lend_41 : decode cX7_lend 41 = .ok (.istore 4, 2) := by decide +kernel
theorem dX7_lend_43 : decode cX7_lend 43 = .ok (.aload_n 0, 1) := by decide +kernel
theorem dX7_lend_44 : decode cX7_lend 44 = .ok (.getfield 33, 3) := by decide +kernel
theorem dX7_lend_47 : decode cX7_lend 47 = .ok (.iload_n 2, 1) := by decide +kernel
theorem dX7_lend_48 : decode cX7_lend 48 = .ok (.iload_n 1, 1) := by decide +kernel
theorem dX7_lend_49 : decode cX7_lend 49 = .ok (.iload_n 3, 1) := by decide +kernel
theorem dX7_lend_50 : decode cX7_lend 50 = .ok (.invokevirtual 149, 3) := by decide +kernel
theorem dX7_lend_53 : decode cX7_lend 53 = .ok (.aload_n 0, 1) := by decide +kernel
theorem dX7_lend_54 : decode cX7_lend 54 = .ok (.getfield 46, 3) := by decide +kernel
theorem dX7_lend_57 : decode cX7_lend 57 = .ok (.iconst 0, 1) := by decide +kernel
theorem dX7_lend_58 : decode cX7_lend 58 = .ok (.iload_n 1, 1) := by decide +kernel
theorem dX7_lend_59 : decode cX7_lend 59 = .ok (.iload_n 2, 1) := by decide +kernel
theorem dX7_lend_60 : decode cX7_lend 60 = .ok (.iload 4, 2) := by decide +kernel
theorem dX7_lend_62 : decode cX7_lend 62 = .ok (.invokevirtual 152, 3) := by decide +kernel
theorem dX7_lend_65 : decode cX7_lend 65 = .ok (.iload 4, 2) := by decide +kernel
theorem dX7_lend_67 : decode cX7_lend 67 = .ok (.ireturn, 1) := by decide +kernel
theorem yv_X7_lend : YV yX7_lend cX7_lend 5 (some .int) 3 := ⟨m528, m529, m1, m530, ⟨by decide +kernel, by decide +kernel, by decide +kernel⟩, by decide⟩
noncomputable def f_X7_lend (q : Nat) (x1 : Int32) (x2 : Int32) (x3 : Int32) (h : AH) : Option (Int32 × AH) := bd (f_X2_isArch (q + 17) x1 h) (fun v_3 h_2 => if v_3 = 0 then (some ((-1000001), h_2)) else (if x2 < 0 then (some ((-1000001), h_2)) else (if (1 : Int32) < x2 then (some ((-1000001), h_2)) else (if x3 < 0 then (some ((-1000001), h_2)) else (if x3 ≤ 4 then (bd (f_X2_charterOf (q + 17) x2 x1 h_2) (fun v_6 h_5 => bd (f_X2_giveCharter (q + 17) x2 x1 x3 h_5) (fun _ h_8 => bd (f_X0_keep (q + 44) 0 x1 x2 v_6 h_8) (fun _ h_11 => some (v_6, h_11))))) else (some ((-1000001), h_2)))))))
set_option maxRecDepth 20000 in
set_option maxHeartbeats 4000000 in
theorem ct_X7_lend (l : Launch) (g : GC) {q : Nat} (hq : (gL g)[q]? = some (.inl 7)) (x1 : Int32) (x2 : Int32) (x3 : Int32) : Ct l yX7_lend cX7_lend 5 (some .int) 3 [.ref (gad g q), .int x1, .int x2, .int x3] g mkI (fun h => f_X7_lend q x1 x2 x3 h) := by
  refine Ct.of (by decide +kernel) (Nat.le_of_ble_eq_true rfl) (fun z A h _ F => ?_)
  show Snd z 5 g A (QF z g A mkI) 0 [(0, .ref (gad g q)), (1, .int x1), (2, .int x2), (3, .int x3)] [] h (f_X7_lend q x1 x2 x3 h)
  unfold f_X7_lend
  refine s_aload_n F dX7_lend_0 rfl 0 rfl ?_
  have hw_1 := wf_ref F.2.2.2.2.2.2.1 hq 3 17 (.inl 2) rfl
  refine s_getr F ciX7 3 17 (.inl 2) hq (by decide) rfl rfl m242 dX7_lend_1 ?_
  refine s_iload_n F dX7_lend_4 rfl 1 rfl ?_
  refine s_callVi (f := fun hh => f_X2_isArch (q + 17) x1 hh) (As := [.int x1]) F yv_X2_isArch (ct_X2_isArch z.2.1 g hw_1 x1) (by decide) m531 hw_1 rfl rfl rfl (Nat.le_of_ble_eq_true rfl) dX7_lend_5 (fun v_3 h_2 e_v_3 => ?_)
  refine s_if_eq F 29 dX7_lend_8 (by decide) (fun _ => ?_) (fun _ => ?_)
  · refine s_ldc F (v := (-1000001)) dX7_lend_29 m280 ?_
    exact s_iret F dX7_lend_31
  · refine s_iload_n F dX7_lend_11 rfl 2 rfl ?_
    refine s_if_lt F 29 dX7_lend_12 (by decide) (fun _ => ?_) (fun _ => ?_)
    · refine s_ldc F (v := (-1000001)) dX7_lend_29 m280 ?_
      exact s_iret F dX7_lend_31
    · refine s_iload_n F dX7_lend_15 rfl 2 rfl ?_
      refine s_iconst F (v := 1) dX7_lend_16 (by decide) ?_
      refine s_icmp_gt F 29 dX7_lend_17 (by decide) (fun _ => ?_) (fun _ => ?_)
      · refine s_ldc F (v := (-1000001)) dX7_lend_29 m280 ?_
        exact s_iret F dX7_lend_31
      · refine s_iload_n F dX7_lend_20 rfl 3 rfl ?_
        refine s_if_lt F 29 dX7_lend_21 (by decide) (fun _ => ?_) (fun _ => ?_)
        · refine s_ldc F (v := (-1000001)) dX7_lend_29 m280 ?_
          exact s_iret F dX7_lend_31
        · refine s_iload_n F dX7_lend_24 rfl 3 rfl ?_
          refine s_iconst F (v := 4) dX7_lend_25 (by decide) ?_
          refine s_icmp_le F 32 dX7_lend_26 (by decide) (fun _ => ?_) (fun _ => ?_)
          · refine s_aload_n F dX7_lend_32 rfl 0 rfl ?_
            have hw_4 := wf_ref F.2.2.2.2.2.2.1 hq 3 17 (.inl 2) rfl
            refine s_getr F ciX7 3 17 (.inl 2) hq (by decide) rfl rfl m242 dX7_lend_33 ?_
            refine s_iload_n F dX7_lend_36 rfl 2 rfl ?_
            refine s_iload_n F dX7_lend_37 rfl 1 rfl ?_
            refine s_callVi (f := fun hh => f_X2_charterOf (q + 17) x2 x1 hh) (As := [.int x2, .int x1]) F yv_X2_charterOf (ct_X2_charterOf z.2.1 g hw_4 x2 x1) (by decide) m535 hw_4 rfl rfl rfl (Nat.le_of_ble_eq_true rfl) dX7_lend_38 (fun v_6 h_5 e_v_6 => ?_)
            refine s_istore F (lv' := [(4, .int v_6), (0, .ref (gad g q)), (1, .int x1), (2, .int x2), (3, .int x3)]) dX7_lend_41 (by decide) rfl ?_
            refine s_aload_n F dX7_lend_43 rfl 1 rfl ?_
            have hw_7 := wf_ref F.2.2.2.2.2.2.1 hq 3 17 (.inl 2) rfl
            refine s_getr F ciX7 3 17 (.inl 2) hq (by decide) rfl rfl m242 dX7_lend_44 ?_
            refine s_iload_n F dX7_lend_47 rfl 3 rfl ?_
            refine s_iload_n F dX7_lend_48 rfl 2 rfl ?_
            refine s_iload_n F dX7_lend_49 rfl 4 rfl ?_
            refine s_callVu (f := fun hh => f_X2_giveCharter (q + 17) x2 x1 x3 hh) (As := [.int x2, .int x1, .int x3]) F yv_X2_giveCharter (ct_X2_giveCharter z.2.1 g hw_7 x2 x1 x3) (by decide) m540 hw_7 rfl rfl rfl (Nat.le_of_ble_eq_true rfl) dX7_lend_50 (fun _ h_8 e_v_9 => ?_)
            refine s_aload_n F dX7_lend_53 rfl 1 rfl ?_
            have hw_10 := wf_ref F.2.2.2.2.2.2.1 hq 6 44 (.inl 0) rfl
            refine s_getr F ciX7 6 44 (.inl 0) hq (by decide) rfl rfl m245 dX7_lend_54 ?_
            refine s_iconst F (v := 0) dX7_lend_57 (by decide) ?_
            refine s_iload_n F dX7_lend_58 rfl 2 rfl ?_
            refine s_iload_n F dX7_lend_59 rfl 3 rfl ?_
            refine s_iload F dX7_lend_60 0 rfl ?_
            refine s_callVu (f := fun hh => f_X0_keep (q + 44) 0 x1 x2 v_6 hh) (As := [.int 0, .int x1, .int x2, .int v_6]) F yv_X0_keep (ct_X0_keep z.2.1 g hw_10 0 x1 x2 v_6) (by decide) m544 hw_10 rfl rfl rfl (Nat.le_of_ble_eq_true rfl) dX7_lend_62 (fun _ h_11 e_v_12 => ?_)
            refine s_iload F dX7_lend_65 0 rfl ?_
            exact s_iret F dX7_lend_67
          · refine s_ldc F (v := (-1000001)) dX7_lend_29 m280 ?_
            exact s_iret F dX7_lend_31
theorem dX7_shut_0 : decode cX7_shut 0 = .ok (.aload_n 0, 1) := by decide +kernel
theorem dX7_shut_1 : decode cX7_shut 1 = .ok (.getfield 33, 3) := by decide +kernel
theorem dX7_shut_4 : decode cX7_shut 4 = .ok (.iload_n 1, 1) := by decide +kernel
theorem dX7_shut_5 : decode cX7_shut 5 = .ok (.invokevirtual 142, 3) := by decide +kernel
theorem dX7_shut_8 : decode cX7_shut 8 = .ok (.ifCond .eq 12, 3) := by decide +kernel
theorem dX7_shut_11 : decode cX7_shut 11 = .ok (.iload_n 2, 1) := by decide +kernel
theorem dX7_shut_12 : decode cX7_shut 12 = .ok (.ifCond .lt 8, 3) := by decide +kernel
theorem dX7_shut_15 : decode cX7_shut 15 = .ok (.iload_n 2, 1) := by decide +kernel
theorem dX7_shut_16 : decode cX7_shut 16 = .ok (.iconst 1, 1) := by decide +kernel
theorem dX7_shut_17 : decode cX7_shut 17 = .ok (.if_icmp .le 6, 3) := by decide +kernel
theorem dX7_shut_20 : decode cX7_shut 20 = .ok (.ldc 68, 2) := by decide +kernel
theorem dX7_shut_22 : decode cX7_shut 22 = .ok (.ireturn, 1) := by decide +kernel
theorem dX7_shut_23 : decode cX7_shut 23 = .ok (.aload_n 0, 1) := by decide +kernel
theorem dX7_shut_24 : decode cX7_shut 24 = .ok (.getfield 33, 3) := by decide +kernel
theorem dX7_shut_27 : decode cX7_shut 27 = .ok (.getfield 156, 3) := by decide +kernel
theorem dX7_shut_30 : decode cX7_shut 30 = .ok (.iload_n 1, 1) := by decide +kernel
theorem dX7_shut_31 : decode cX7_shut 31 = .ok (.invokestatic 159, 3) := by decide +kernel
theorem dX7_shut_34 : decode cX7_shut 34 = .ok (.istore_n 3, 1) := by decide +kernel
theorem dX7_shut_35 : decode cX7_shut 35 = .ok (.aload_n 0, 1) := by decide +kernel
theorem dX7_shut_36 : decode cX7_shut 36 = .ok (.getfield 33, 3) := by decide +kernel
theorem dX7_shut_39 : decode cX7_shut 39 = .ok (.aload_n 0, 1) := by decide +kernel
theorem dX7_shut_40 : decode cX7_shut 40 = .ok (.getfield 33, 3) := by decide +kernel
theorem dX7_shut_43 : decode cX7_shut 43 = .ok (.getfield 156, 3) := by decide +kernel
theorem dX7_shut_46 : decode cX7_shut 46 = .ok (.iload_n 1, 1) := by decide +kernel
theorem dX7_shut_47 : decode cX7_shut 47 = .ok (.iload_n 2, 1) := by decide +kernel
theorem dX7_shut_48 : decode cX7_shut 48 = .ok (.invokestatic 162, 3) := by decide +kernel
theorem dX7_shut_51 : decode cX7_shut 51 = .ok (.putfield 156, 3) := by decide +kernel
theorem dX7_shut_54 : decode cX7_shut 54 = .ok (.aload_n 0, 1) := by decide +kernel
theorem dX7_shut_55 : decode cX7_shut 55 = .ok (.getfield 46, 3) := by decide +kernel
theorem dX7_shut_58 : decode cX7_shut 58 = .ok (.iconst 1, 1) := by decide +kernel
theorem dX7_shut_59 : decode cX7_shut 59 = .ok (.iload_n 1, 1) := by decide +kernel
theorem dX7_shut_60 : decode cX7_shut 60 = .ok (.iload_n 3, 1) := by decide +kernel
theorem dX7_shut_61 : decode cX7_shut 61 = .ok (.iconst 0, 1) := by decide +kernel
theorem dX7_shut_62 : decode cX7_shut 62 = .ok (.invokevirtual 152, 3) := by decide +kernel
theorem dX7_shut_65 : decode cX7_shut 65 = .ok (.iload_n 3, 1) := by decide +kernel
theorem dX7_shut_66 : decode cX7_shut 66 = .ok (.ireturn, 1) := by decide +kernel
theorem yv_X7_shut : YV yX7_shut cX7_shut 4 (some .int) 2 := ⟨m549, m550, m1, m551, ⟨by decide +kernel, by decide +kernel, by decide +kernel⟩, by decide⟩
noncomputable def f_X7_shut (q : Nat) (x1 : Int32) (x2 : Int32) (h : AH) : Option (Int32 × AH) := bd (f_X2_isArch (q + 17) x1 h) (fun v_3 h_2 => if v_3 = 0 then (some ((-1000001), h_2)) else (if x2 < 0 then (some ((-1000001), h_2)) else (if x2 ≤ 1 then (bd (f_X7_bitOf (h_2 (q + 17) 5) x1 h_2) (fun v_6 h_5 => bd (f_X7_withBit (h_5 (q + 17) 5) x1 x2 h_5) (fun v_10 h_9 => lt (hset h_9 (q + 17) 5 v_10) (fun h_11 => bd (f_X0_keep (q + 44) 1 x1 v_6 0 h_11) (fun _ h_13 => some (v_6, h_13)))))) else (some ((-1000001), h_2)))))
set_option maxRecDepth 20000 in
set_option maxHeartbeats 4000000 in
theorem ct_X7_shut (l : Launch) (g : GC) {q : Nat} (hq : (gL g)[q]? = some (.inl 7)) (x1 : Int32) (x2 : Int32) : Ct l yX7_shut cX7_shut 4 (some .int) 2 [.ref (gad g q), .int x1, .int x2] g mkI (fun h => f_X7_shut q x1 x2 h) := by
  refine Ct.of (by decide +kernel) (Nat.le_of_ble_eq_true rfl) (fun z A h _ F => ?_)
  show Snd z 4 g A (QF z g A mkI) 0 [(0, .ref (gad g q)), (1, .int x1), (2, .int x2)] [] h (f_X7_shut q x1 x2 h)
  unfold f_X7_shut
  refine s_aload_n F dX7_shut_0 rfl 0 rfl ?_
  have hw_1 := wf_ref F.2.2.2.2.2.2.1 hq 3 17 (.inl 2) rfl
  refine s_getr F ciX7 3 17 (.inl 2) hq (by decide) rfl rfl m242 dX7_shut_1 ?_
  refine s_iload_n F dX7_shut_4 rfl 1 rfl ?_
  refine s_callVi (f := fun hh => f_X2_isArch (q + 17) x1 hh) (As := [.int x1]) F yv_X2_isArch (ct_X2_isArch z.2.1 g hw_1 x1) (by decide) m531 hw_1 rfl rfl rfl (Nat.le_of_ble_eq_true rfl) dX7_shut_5 (fun v_3 h_2 e_v_3 => ?_)
  refine s_if_eq F 20 dX7_shut_8 (by decide) (fun _ => ?_) (fun _ => ?_)
  · refine s_ldc F (v := (-1000001)) dX7_shut_20 m280 ?_
    exact s_iret F dX7_shut_22
  · refine s_iload_n F dX7_shut_11 rfl 2 rfl ?_
    refine s_if_lt F 20 dX7_shut_12 (by decide) (fun _ => ?_) (fun _ => ?_)
    · refine s_ldc F (v := (-1000001)) dX7_shut_20 m280 ?_
      exact s_iret F dX7_shut_22
    · refine s_iload_n F dX7_shut_15 rfl 2 rfl ?_
      refine s_iconst F (v := 1) dX7_shut_16 (by decide) ?_
      refine s_icmp_le F 23 dX7_shut_17 (by decide) (fun _ => ?_) (fun _ => ?_)
      · refine s_aload_n F dX7_shut_23 rfl 0 rfl ?_
        have hw_4 := wf_ref F.2.2.2.2.2.2.1 hq 3 17 (.inl 2) rfl
        refine s_getr F ciX7 3 17 (.inl 2) hq (by decide) rfl rfl m242 dX7_shut_24 ?_
        refine s_getiN F ciX2 5 hw_4 (by decide) rfl rfl (List.mem_of_getElem? (i := 1) rfl) dX7_shut_27 ?_
        refine s_iload_n F dX7_shut_30 rfl 1 rfl ?_
        refine s_callSi (f := fun hh => f_X7_bitOf (h_2 (q + 17) 5) x1 hh) (As := [.int (h_2 (q + 17) 5), .int x1]) F ys_X7_bitOf (ct_X7_bitOf z.2.1 g (h_2 (q + 17) 5) x1) (by decide) m552 rfl rfl (Nat.le_of_ble_eq_true rfl) dX7_shut_31 (fun v_6 h_5 e_v_6 => ?_)
        refine s_istore_n F (lv' := [(3, .int v_6), (0, .ref (gad g q)), (1, .int x1), (2, .int x2)]) dX7_shut_34 rfl (by decide) rfl ?_
        refine s_aload_n F dX7_shut_35 rfl 1 rfl ?_
        have hw_7 := wf_ref F.2.2.2.2.2.2.1 hq 3 17 (.inl 2) rfl
        refine s_getr F ciX7 3 17 (.inl 2) hq (by decide) rfl rfl m242 dX7_shut_36 ?_
        refine s_aload_n F dX7_shut_39 rfl 1 rfl ?_
        have hw_8 := wf_ref F.2.2.2.2.2.2.1 hq 3 17 (.inl 2) rfl
        refine s_getr F ciX7 3 17 (.inl 2) hq (by decide) rfl rfl m242 dX7_shut_40 ?_
        refine s_getiN F ciX2 5 hw_8 (by decide) rfl rfl (List.mem_of_getElem? (i := 1) rfl) dX7_shut_43 ?_
        refine s_iload_n F dX7_shut_46 rfl 2 rfl ?_
        refine s_iload_n F dX7_shut_47 rfl 3 rfl ?_
        refine s_callSi (f := fun hh => f_X7_withBit (h_5 (q + 17) 5) x1 x2 hh) (As := [.int (h_5 (q + 17) 5), .int x1, .int x2]) F ys_X7_withBit (ct_X7_withBit z.2.1 g (h_5 (q + 17) 5) x1 x2) (by decide) m555 rfl rfl (Nat.le_of_ble_eq_true rfl) dX7_shut_48 (fun v_10 h_9 e_v_10 => ?_)
        refine s_putN F ciX2 (k := 5) hw_7 (by decide) rfl rfl rfl rfl (List.mem_of_getElem? (i := 1) rfl) dX7_shut_51 ?_
        refine s_letH (fun h_11 => ?_)
        refine s_aload_n F dX7_shut_54 rfl 1 rfl ?_
        have hw_12 := wf_ref F.2.2.2.2.2.2.1 hq 6 44 (.inl 0) rfl
        refine s_getr F ciX7 6 44 (.inl 0) hq (by decide) rfl rfl m245 dX7_shut_55 ?_
        refine s_iconst F (v := 1) dX7_shut_58 (by decide) ?_
        refine s_iload_n F dX7_shut_59 rfl 2 rfl ?_
        refine s_iload_n F dX7_shut_60 rfl 0 rfl ?_
        refine s_iconst F (v := 0) dX7_shut_61 (by decide) ?_
        refine s_callVu (f := fun hh => f_X0_keep (q + 44) 1 x1 v_6 0 hh) (As := [.int 1, .int x1, .int v_6, .int 0]) F yv_X0_keep (ct_X0_keep z.2.1 g hw_12 1 x1 v_6 0) (by decide) m544 hw_12 rfl rfl rfl (Nat.le_of_ble_eq_true rfl) dX7_shut_62 (fun _ h_13 e_v_14 => ?_)
        refine s_iload_n F dX7_shut_65 rfl 0 rfl ?_
        exact s_iret F dX7_shut_66
      · refine s_ldc F (v := (-1000001)) dX7_shut_20 m280 ?_
        exact s_iret F dX7_shut_22
theorem dX7_pass_0 : decode cX7_pass 0 = .ok (.aload_n 0, 1) := by decide +kernel
theorem dX7_pass_1 : decode cX7_pass 1 = .ok (.getfield 33, 3) := by decide +kernel
theorem dX7_pass_4 : decode cX7_pass 4 = .ok (.iload_n 1, 1) := by decide +kernel
theorem dX7_pass_5 : decode cX7_pass 5 = .ok (.invokevirtual 165, 3) := by decide +kernel
theorem dX7_pass_8 : decode cX7_pass 8 = .ok (.ifCond .eq 14, 3) := by decide +kernel
theorem dX7_pass_11 : decode cX7_pass 11 = .ok (.aload_n 0, 1) := by decide +kernel
theorem dX7_pass_12 : decode cX7_pass 12 = .ok (.getfield 33, 3) := by decide +kernel
theorem dX7_pass_15 : decode cX7_pass 15 = .ok (.iload_n 2, 1) := by decide +kernel
theorem dX7_pass_16 : decode cX7_pass 16 = .ok (.invokevirtual 142, 3) := by decide +kernel
theorem dX7_pass_19 : decode cX7_pass 19 = .ok (.ifCond .ne 6, 3) := by decide +kernel
theorem dX7_pass_22 : decode cX7_pass 22 = .ok (.ldc 68, 2) := by decide +kernel
theorem dX7_pass_24 : decode cX7_pass 24 = .ok (.ireturn, 1) := by decide +kernel
theorem dX7_pass_25 : decode cX7_pass 25 = .ok (.aload_n 0, 1) := by decide +kernel
theorem dX7_pass_26 : decode cX7_pass 26 = .ok (.getfield 33, 3) := by decide +kernel
theorem dX7_pass_29 : decode cX7_pass 29 = .ok (.iload_n 1, 1) := by decide +kernel
theorem dX7_pass_30 : decode cX7_pass 30 = .ok (.invokevirtual 168, 3) := by decide +kernel
theorem dX7_pass_33 : decode cX7_pass 33 = .ok (.ifCond .ne 42, 3) := by decide +kernel
theorem dX7_pass_36 : decode cX7_pass 36 = .ok (.aload_n 0, 1) := by decide +kernel
theorem dX7_pass_37 : decode cX7_pass 37 = .ok (.getfield 33, 3) := by decide +kernel
theorem dX7_pass_40 : decode cX7_pass 40 = .ok (.iload_n 1, 1) := by decide +kernel
theorem dX7_pass_41 : decode cX7_pass 41 = .ok (.iload_n 2, 1) := by decide +kernel
theorem dX7_pass_42 : decode cX7_pass 42 = .ok (.aload_n 0, 1) := by decide +kernel
theorem dX7_pass_43 : decode cX7_pass 43 = .ok (.getfield 33, 3) := by decide +kernel
theorem dX7_pass_46 : decode cX7_pass 46 = .ok (.getfield 171, 3) := by decide +kernel
theorem dX7_pass_49 : decode cX7_pass 49 = .ok (.invokevirtual 174, 3) := by decide +kernel
theorem dX7_pass_52 : decode cX7_pass 52 = .ok (.ifCond .eq 23, 3) := by decide +kernel
theorem dX7_pass_55 : decode cX7_pass 55 = .ok (.aload_n 0, 1) := by decide +kernel
theorem dX7_pass_56 : decode cX7_pass 56 = .ok (.getfield 33, 3) := by decide +kernel
theorem dX7_pass_59 : decode cX7_pass 59 = .ok (.aload_n 0, 1) := by decide +kernel
theorem dX7_pass_60 : decode cX7_pass 60 = .ok (.getfield 33, 3) := by decide +kernel
theorem dX7_pass_63 : decode cX7_pass 63 = .ok (.iload_n 1, 1) := by decide +kernel
theorem dX7_pass_64 : decode cX7_pass 64 = .ok (.invokevirtual 177, 3) := by decide +kernel
theorem dX7_pass_67 : decode cX7_pass 67 = .ok (.iload_n 2, 1) := by decide +kernel
theorem dX7_pass_68 : decode cX7_pass 68 = .ok (.invokevirtual 180, 3) := by decide +kernel
theorem dX7_pass_71 : decode cX7_pass 71 = .ok (.iconst 1, 1) := by decide +kernel
theorem dX7_pass_72 : decode cX7_pass 72 = .ok (.if_icmp .ne 6, 3) := by decide +kernel
theorem dX7_pass_75 : decode cX7_pass 75 = .ok (.ldc 183, 2) := by decide +kernel
theorem dX7_pass_77 : decode cX7_pass 77 = .ok (.ireturn, 1) := by decide +kernel
theorem dX7_pass_78 : decode cX7_pass 78 = .ok (.aload_n 0, 1) := by decide +kernel
theorem dX7_pass_79 : decode cX7_pass 79 = .ok (.getfield 33, 3) := by decide +kernel
theorem dX7_pass_82 : decode cX7_pass 82 = .ok (.iload_n 1, 1) := by decide +kernel
theorem dX7_pass_83 : decode cX7_pass 83 = .ok (.iload_n 2, 1) := by decide +kernel
theorem dX7_pass_84 : decode cX7_pass 84 = .ok (.invokevirtual 184, 3) := by decide +kernel
theorem dX7_pass_87 : decode cX7_pass 87 = .ok (.istore_n 3, 1) := by decide +kernel
theorem dX7_pass_88 : decode cX7_pass 88 = .ok (.aload_n 0, 1) := by decide +kernel
theorem dX7_pass_89 : decode cX7_pass 89 = .ok (.getfield 33, 3) := by decide +kernel
theorem dX7_pass_92 : decode cX7_pass 92 = .ok (.iload_n 1, 1) := by decide +kernel
theorem dX7_pass_93 : decode cX7_pass 93 = .ok (.iload_n 2, 1) := by decide +kernel
theorem dX7_pass_94 : decode cX7_pass 94 = .ok (.iload_n 3, 1) := by decide +kernel
theorem dX7_pass_95 : decode cX7_pass 95 = .ok (.invokevirtual 187, 3) := by decide +kernel
theorem dX7_pass_98 : decode cX7_pass 98 = .ok (.aload_n 0, 1) := by decide +kernel
theorem dX7_pass_99 : decode cX7_pass 99 = .ok (.getfield 46, 3) := by decide +kernel
theorem dX7_pass_102 : decode cX7_pass 102 = .ok (.iconst 2, 1) := by decide +kernel
theorem dX7_pass_103 : decode cX7_pass 103 = .ok (.iload_n 1, 1) := by decide +kernel
theorem dX7_pass_104 : decode cX7_pass 104 = .ok (.iload_n 2, 1) := by decide +kernel
theorem dX7_pass_105 : decode cX7_pass 105 = .ok (.iload_n 3, 1) := by decide +kernel
theorem dX7_pass_106 : decode cX7_pass 106 = .ok (.invokevirtual 152, 3) := by decide +kernel
theorem dX7_pass_109 : decode cX7_pass 109 = .ok (.iload_n 3, 1) := by decide +kernel
theorem dX7_pass_110 : decode cX7_pass 110 = .ok (.ireturn, 1) := by decide +kernel
theorem yv_X7_pass : YV yX7_pass cX7_pass 4 (some .int) 2 := ⟨m559, m560, m1, m561, ⟨by decide +kernel, by decide +kernel, by decide +kernel⟩, by decide⟩
noncomputable def f_X7_pass (q : Nat) (x1 : Int32) (x2 : Int32) (h : AH) : Option (Int32 × AH) := bd (f_X2_isBoat (q + 17) x1 h) (fun v_3 h_2 => if v_3 = 0 then (some ((-1000001), h_2)) else (bd (f_X2_isArch (q + 17) x2 h_2) (fun v_6 h_5 => if v_6 = 0 then (some ((-1000001), h_5)) else (bd (f_X2_isGone (q + 17) x1 h_5) (fun v_9 h_8 => if v_9 = 0 then (bd (f_X2_letsBy (q + 17) x1 x2 (h_8 (q + 17) 3) h_8) (fun v_13 h_12 => if v_13 = 0 then (some ((-1000002), h_12)) else (bd (f_X2_sideOf (q + 17) x1 h_12) (fun v_17 h_16 => bd (f_X2_wentIn (q + 17) v_17 x2 h_16) (fun v_19 h_18 => if v_19 = 1 then (some ((-1000002), h_18)) else (bd (f_X2_tollOf (q + 17) x1 x2 h_18) (fun v_22 h_21 => bd (f_X2_goBy (q + 17) x1 x2 v_22 h_21) (fun _ h_24 => bd (f_X0_keep (q + 44) 2 x1 x2 v_22 h_24) (fun _ h_27 => some (v_22, h_27)))))))))) else (some ((-1000002), h_8)))))))
set_option maxRecDepth 20000 in
set_option maxHeartbeats 4000000 in
theorem ct_X7_pass (l : Launch) (g : GC) {q : Nat} (hq : (gL g)[q]? = some (.inl 7)) (x1 : Int32) (x2 : Int32) : Ct l yX7_pass cX7_pass 4 (some .int) 6 [.ref (gad g q), .int x1, .int x2] g mkI (fun h => f_X7_pass q x1 x2 h) := by
  refine Ct.of (by decide +kernel) (Nat.le_of_ble_eq_true rfl) (fun z A h _ F => ?_)
  show Snd z 4 g A (QF z g A mkI) 0 [(0, .ref (gad g q)), (1, .int x1), (2, .int x2)] [] h (f_X7_pass q x1 x2 h)
  unfold f_X7_pass
  refine s_aload_n F dX7_pass_0 rfl 0 rfl ?_
  have hw_1 := wf_ref F.2.2.2.2.2.2.1 hq 3 17 (.inl 2) rfl
  refine s_getr F ciX7 3 17 (.inl 2) hq (by decide) rfl rfl m242 dX7_pass_1 ?_
  refine s_iload_n F dX7_pass_4 rfl 1 rfl ?_
  refine s_callVi (f := fun hh => f_X2_isBoat (q + 17) x1 hh) (As := [.int x1]) F yv_X2_isBoat (ct_X2_isBoat z.2.1 g hw_1 x1) (by decide) m562 hw_1 rfl rfl rfl (Nat.le_of_ble_eq_true rfl) dX7_pass_5 (fun v_3 h_2 e_v_3 => ?_)
  refine s_if_eq F 22 dX7_pass_8 (by decide) (fun _ => ?_) (fun _ => ?_)
  · refine s_ldc F (v := (-1000001)) dX7_pass_22 m280 ?_
    exact s_iret F dX7_pass_24
  · refine s_aload_n F dX7_pass_11 rfl 0 rfl ?_
    have hw_4 := wf_ref F.2.2.2.2.2.2.1 hq 3 17 (.inl 2) rfl
    refine s_getr F ciX7 3 17 (.inl 2) hq (by decide) rfl rfl m242 dX7_pass_12 ?_
    refine s_iload_n F dX7_pass_15 rfl 2 rfl ?_
    refine s_callVi (f := fun hh => f_X2_isArch (q + 17) x2 hh) (As := [.int x2]) F yv_X2_isArch (ct_X2_isArch z.2.1 g hw_4 x2) (by decide) m531 hw_4 rfl rfl rfl (Nat.le_of_ble_eq_true rfl) dX7_pass_16 (fun v_6 h_5 e_v_6 => ?_)
    refine s_if_ne F 25 dX7_pass_19 (by decide) (fun _ => ?_) (fun _ => ?_)
    · refine s_aload_n F dX7_pass_25 rfl 0 rfl ?_
      have hw_7 := wf_ref F.2.2.2.2.2.2.1 hq 3 17 (.inl 2) rfl
      refine s_getr F ciX7 3 17 (.inl 2) hq (by decide) rfl rfl m242 dX7_pass_26 ?_
      refine s_iload_n F dX7_pass_29 rfl 1 rfl ?_
      refine s_callVi (f := fun hh => f_X2_isGone (q + 17) x1 hh) (As := [.int x1]) F yv_X2_isGone (ct_X2_isGone z.2.1 g hw_7 x1) (by decide) m566 hw_7 rfl rfl rfl (Nat.le_of_ble_eq_true rfl) dX7_pass_30 (fun v_9 h_8 e_v_9 => ?_)
      refine s_if_ne F 75 dX7_pass_33 (by decide) (fun _ => ?_) (fun _ => ?_)
      · refine s_ldc F (v := (-1000002)) dX7_pass_75 m613 ?_
        exact s_iret F dX7_pass_77
      · refine s_aload_n F dX7_pass_36 rfl 0 rfl ?_
        have hw_10 := wf_ref F.2.2.2.2.2.2.1 hq 3 17 (.inl 2) rfl
        refine s_getr F ciX7 3 17 (.inl 2) hq (by decide) rfl rfl m242 dX7_pass_37 ?_
        refine s_iload_n F dX7_pass_40 rfl 1 rfl ?_
        refine s_iload_n F dX7_pass_41 rfl 2 rfl ?_
        refine s_aload_n F dX7_pass_42 rfl 0 rfl ?_
        have hw_11 := wf_ref F.2.2.2.2.2.2.1 hq 3 17 (.inl 2) rfl
        refine s_getr F ciX7 3 17 (.inl 2) hq (by decide) rfl rfl m242 dX7_pass_43 ?_
        refine s_getiN F ciX2 3 hw_11 (by decide) rfl rfl (List.mem_of_getElem? (i := 2) rfl) dX7_pass_46 ?_
        refine s_callVi (f := fun hh => f_X2_letsBy (q + 17) x1 x2 (h_8 (q + 17) 3) hh) (As := [.int x1, .int x2, .int (h_8 (q + 17) 3)]) F yv_X2_letsBy (ct_X2_letsBy z.2.1 g hw_10 x1 x2 (h_8 (q + 17) 3)) (by decide) m571 hw_10 rfl rfl rfl (Nat.le_of_ble_eq_true rfl) dX7_pass_49 (fun v_13 h_12 e_v_13 => ?_)
        refine s_if_eq F 75 dX7_pass_52 (by decide) (fun _ => ?_) (fun _ => ?_)
        · refine s_ldc F (v := (-1000002)) dX7_pass_75 m613 ?_
          exact s_iret F dX7_pass_77
        · refine s_aload_n F dX7_pass_55 rfl 0 rfl ?_
          have hw_14 := wf_ref F.2.2.2.2.2.2.1 hq 3 17 (.inl 2) rfl
          refine s_getr F ciX7 3 17 (.inl 2) hq (by decide) rfl rfl m242 dX7_pass_56 ?_
          refine s_aload_n F dX7_pass_59 rfl 0 rfl ?_
          have hw_15 := wf_ref F.2.2.2.2.2.2.1 hq 3 17 (.inl 2) rfl
          refine s_getr F ciX7 3 17 (.inl 2) hq (by decide) rfl rfl m242 dX7_pass_60 ?_
          refine s_iload_n F dX7_pass_63 rfl 1 rfl ?_
          refine s_callVi (f := fun hh => f_X2_sideOf (q + 17) x1 hh) (As := [.int x1]) F yv_X2_sideOf (ct_X2_sideOf z.2.1 g hw_15 x1) (by decide) m608 hw_15 rfl rfl rfl (Nat.le_of_ble_eq_true rfl) dX7_pass_64 (fun v_17 h_16 e_v_17 => ?_)
          refine s_iload_n F dX7_pass_67 rfl 2 rfl ?_
          refine s_callVi (f := fun hh => f_X2_wentIn (q + 17) v_17 x2 hh) (As := [.int v_17, .int x2]) F yv_X2_wentIn (ct_X2_wentIn z.2.1 g hw_14 v_17 x2) (by decide) m609 hw_14 rfl rfl rfl (Nat.le_of_ble_eq_true rfl) dX7_pass_68 (fun v_19 h_18 e_v_19 => ?_)
          refine s_iconst F (v := 1) dX7_pass_71 (by decide) ?_
          refine s_icmp_ne F 78 dX7_pass_72 (by decide) (fun _ => ?_) (fun _ => ?_)
          · refine s_aload_n F dX7_pass_78 rfl 0 rfl ?_
            have hw_20 := wf_ref F.2.2.2.2.2.2.1 hq 3 17 (.inl 2) rfl
            refine s_getr F ciX7 3 17 (.inl 2) hq (by decide) rfl rfl m242 dX7_pass_79 ?_
            refine s_iload_n F dX7_pass_82 rfl 1 rfl ?_
            refine s_iload_n F dX7_pass_83 rfl 2 rfl ?_
            refine s_callVi (f := fun hh => f_X2_tollOf (q + 17) x1 x2 hh) (As := [.int x1, .int x2]) F yv_X2_tollOf (ct_X2_tollOf z.2.1 g hw_20 x1 x2) (by decide) m614 hw_20 rfl rfl rfl (Nat.le_of_ble_eq_true rfl) dX7_pass_84 (fun v_22 h_21 e_v_22 => ?_)
            refine s_istore_n F (lv' := [(3, .int v_22), (0, .ref (gad g q)), (1, .int x1), (2, .int x2)]) dX7_pass_87 rfl (by decide) rfl ?_
            refine s_aload_n F dX7_pass_88 rfl 1 rfl ?_
            have hw_23 := wf_ref F.2.2.2.2.2.2.1 hq 3 17 (.inl 2) rfl
            refine s_getr F ciX7 3 17 (.inl 2) hq (by decide) rfl rfl m242 dX7_pass_89 ?_
            refine s_iload_n F dX7_pass_92 rfl 2 rfl ?_
            refine s_iload_n F dX7_pass_93 rfl 3 rfl ?_
            refine s_iload_n F dX7_pass_94 rfl 0 rfl ?_
            refine s_callVu (f := fun hh => f_X2_goBy (q + 17) x1 x2 v_22 hh) (As := [.int x1, .int x2, .int v_22]) F yv_X2_goBy (ct_X2_goBy z.2.1 g hw_23 x1 x2 v_22) (by decide) m626 hw_23 rfl rfl rfl (Nat.le_of_ble_eq_true rfl) dX7_pass_95 (fun _ h_24 e_v_25 => ?_)
            refine s_aload_n F dX7_pass_98 rfl 1 rfl ?_
            have hw_26 := wf_ref F.2.2.2.2.2.2.1 hq 6 44 (.inl 0) rfl
            refine s_getr F ciX7 6 44 (.inl 0) hq (by decide) rfl rfl m245 dX7_pass_99 ?_
            refine s_iconst F (v := 2) dX7_pass_102 (by decide) ?_
            refine s_iload_n F dX7_pass_103 rfl 2 rfl ?_
            refine s_iload_n F dX7_pass_104 rfl 3 rfl ?_
            refine s_iload_n F dX7_pass_105 rfl 0 rfl ?_
            refine s_callVu (f := fun hh => f_X0_keep (q + 44) 2 x1 x2 v_22 hh) (As := [.int 2, .int x1, .int x2, .int v_22]) F yv_X0_keep (ct_X0_keep z.2.1 g hw_26 2 x1 x2 v_22) (by decide) m544 hw_26 rfl rfl rfl (Nat.le_of_ble_eq_true rfl) dX7_pass_106 (fun _ h_27 e_v_28 => ?_)
            refine s_iload_n F dX7_pass_109 rfl 0 rfl ?_
            exact s_iret F dX7_pass_110
          · refine s_ldc F (v := (-1000002)) dX7_pass_75 m613 ?_
            exact s_iret F dX7_pass_77
    · refine s_ldc F (v := (-1000001)) dX7_pass_22 m280 ?_
      exact s_iret F dX7_pass_24
theorem dX7_split_0 : decode cX7_split 0 = .ok (.aload_n 0, 1) := by decide +kernel
theorem dX7_split_1 : decode cX7_split 1 = .ok (.getfield 33, 3) := by decide +kernel
theorem dX7_split_4 : decode cX7_split 4 = .ok (.iload_n 1, 1) := by decide +kernel
theorem dX7_split_5 : decode cX7_split 5 = .ok (.invokevirtual 165, 3) := by decide +kernel
theorem dX7_split_8 : decode cX7_split 8 = .ok (.ifCond .eq 10, 3) := by decide +kernel
theorem dX7_split_11 : decode cX7_split 11 = .ok (.iload_n 2, 1) := by decide +kernel
theorem dX7_split_12 : decode cX7_split 12 = .ok (.invokestatic 190, 3) := by decide +kernel
theorem dX7_split_15 : decode cX7_split 15 = .ok (.ifCond .ne 6, 3) := by decide +kernel
theorem dX7_split_18 : decode cX7_split 18 = .ok (.ldc 68, 2) := by decide +kernel
theorem dX7_split_20 : decode cX7_split 20 = .ok (.ireturn, 1) := by decide +kernel
theorem dX7_split_21 : decode cX7_split 21 = .ok (.aload_n 0, 1) := by decide +kernel
theorem dX7_split_22 : decode cX7_split 22 = .ok (.getfield 33, 3) := by decide +kernel
theorem dX7_split_25 : decode cX7_split 25 = .ok (.iload_n 1, 1) := by decide +kernel
theorem dX7_split_26 : decode cX7_split 26 = .ok (.invokevirtual 168, 3) := by decide +kernel
theorem dX7_split_29 : decode cX7_split 29 = .ok (.ifCond .ne 26, 3) := by decide +kernel
theorem dX7_split_32 : decode cX7_split 32 = .ok (.aload_n 0, 1) := by decide +kernel
theorem dX7_split_33 : decode cX7_split 33 = .ok (.getfield 33, 3) := by decide +kernel
theorem dX7_split_36 : decode cX7_split 36 = .ok (.iload_n 1, 1) := by decide +kernel
theorem dX7_split_37 : decode cX7_split 37 = .ok (.iload_n 2, 1) := by decide +kernel
theorem dX7_split_38 : decode cX7_split 38 = .ok (.invokevirtual 193, 3) := by decide +kernel
theorem dX7_split_41 : decode cX7_split 41 = .ok (.ifCond .eq 14, 3) := by decide +kernel
theorem dX7_split_44 : decode cX7_split 44 = .ok (.aload_n 0, 1) := by decide +kernel
theorem dX7_split_45 : decode cX7_split 45 = .ok (.getfield 33, 3) := by decide +kernel
theorem dX7_split_48 : decode cX7_split 48 = .ok (.iload_n 1, 1) := by decide +kernel
theorem dX7_split_49 : decode cX7_split 49 = .ok (.invokevirtual 196, 3) := by decide +kernel
theorem dX7_split_52 : decode cX7_split 52 = .ok (.ifCond .ne 6, 3) := by decide +kernel
theorem dX7_split_55 : decode cX7_split 55 = .ok (.ldc 183, 2) := by decide +kernel
theorem dX7_split_57 : decode cX7_split 57 = .ok (.ireturn, 1) := by decide +kernel
theorem dX7_split_58 : decode cX7_split 58 = .ok (.aload_n 0, 1) := by decide +kernel
theorem dX7_split_59 : decode cX7_split 59 = .ok (.getfield 33, 3) := by decide +kernel
theorem dX7_split_62 : decode cX7_split 62 = .ok (.getfield 199, 3) := by decide +kernel
theorem dX7_split_65 : decode cX7_split 65 = .ok (.bipush 6, 2) := by decide +kernel
theorem dX7_split_67 : decode cX7_split 67 = .ok (.if_icmp .lt 6, 3) := by decide +kernel
theorem dX7_split_70 : decode cX7_split 70 = .ok (.ldc 109, 2) := by decide +kernel
theorem dX7_split_72 : decode cX7_split 72 = .ok (.ireturn, 1) := by decide +kernel
theorem dX7_split_73 : decode cX7_split 73 = .ok (.aload_n 0, 1) := by decide +kernel
theorem dX7_split_74 : decode cX7_split 74 = .ok (.getfield 33, 3) := by decide +kernel
theorem dX7_split_77 : decode cX7_split 77 = .ok (.iload_n 1, 1) := by decide +kernel
theorem dX7_split_78 : decode cX7_split 78 = .ok (.iload_n 2, 1) := by decide +kernel
theorem dX7_split_79 : decode cX7_split 79 = .ok (.invokevirtual 202, 3) := by decide +kernel
theorem dX7_split_82 : decode cX7_split 82 = .ok (.istore_n 3, 1) := by decide +kernel
theorem dX7_split_83 : decode cX7_split 83 = .ok (.aload_n 0, 1) := by decide +kernel
theorem dX7_split_84 : decode cX7_split 84 = .ok (.getfield 46, 3) := by decide +kernel
theorem dX7_split_87 : decode cX7_split 87 = .ok (.iconst 3, 1) := by decide +kernel
theorem dX7_split_88 : decode cX7_split 88 = .ok (.iload_n 1, 1) := by decide +kernel
theorem dX7_split_89 : decode cX7_split 89 = .ok (.iload_n 2, 1) := by decide +kernel
theorem dX7_split_90 : decode cX7_split 90 = .ok (.iconst 0, 1) := by decide +kernel
theorem dX7_split_91 : decode cX7_split 91 = .ok (.invokevirtual 152, 3) := by decide +kernel
theorem dX7_split_94 : decode cX7_split 94 = .ok (.iload_n 3, 1) := by decide +kernel
theorem dX7_split_95 : decode cX7_split 95 = .ok (.ireturn, 1) := by decide +kernel
theorem yv_X7_split : YV yX7_split cX7_split 4 (some .int) 2 := ⟨m635, m636, m1, m637, ⟨by decide +kernel, by decide +kernel, by decide +kernel⟩, by decide⟩
noncomputable def f_X7_split (q : Nat) (x1 : Int32) (x2 : Int32) (h : AH) : Option (Int32 × AH) := bd (f_X2_isBoat (q + 17) x1 h) (fun v_3 h_2 => if v_3 = 0 then (some ((-1000001), h_2)) else (bd (f_X7_isTrade x2 h_2) (fun v_5 h_4 => if v_5 = 0 then (some ((-1000001), h_4)) else (bd (f_X2_isGone (q + 17) x1 h_4) (fun v_8 h_7 => if v_8 = 0 then (bd (f_X2_loadOf (q + 17) x1 x2 h_7) (fun v_11 h_10 => if v_11 = 0 then (some ((-1000002), h_10)) else (bd (f_X2_isMixed (q + 17) x1 h_10) (fun v_14 h_13 => if v_14 = 0 then (some ((-1000002), h_13)) else (if (h_13 (q + 17) 2) < 6 then (bd (f_X2_splitOff (q + 17) x1 x2 h_13) (fun v_18 h_17 => bd (f_X0_keep (q + 44) 3 x1 x2 0 h_17) (fun _ h_20 => some (v_18, h_20)))) else (some ((-1000003), h_13))))))) else (some ((-1000002), h_7)))))))
set_option maxRecDepth 20000 in
set_option maxHeartbeats 4000000 in
theorem ct_X7_split (l : Launch) (g : GC) {q : Nat} (hq : (gL g)[q]? = some (.inl 7)) (x1 : Int32) (x2 : Int32) : Ct l yX7_split cX7_split 4 (some .int) 5 [.ref (gad g q), .int x1, .int x2] g mkI (fun h => f_X7_split q x1 x2 h) := by
  refine Ct.of (by decide +kernel) (Nat.le_of_ble_eq_true rfl) (fun z A h _ F => ?_)
  show Snd z 4 g A (QF z g A mkI) 0 [(0, .ref (gad g q)), (1, .int x1), (2, .int x2)] [] h (f_X7_split q x1 x2 h)
  unfold f_X7_split
  refine s_aload_n F dX7_split_0 rfl 0 rfl ?_
  have hw_1 := wf_ref F.2.2.2.2.2.2.1 hq 3 17 (.inl 2) rfl
  refine s_getr F ciX7 3 17 (.inl 2) hq (by decide) rfl rfl m242 dX7_split_1 ?_
  refine s_iload_n F dX7_split_4 rfl 1 rfl ?_
  refine s_callVi (f := fun hh => f_X2_isBoat (q + 17) x1 hh) (As := [.int x1]) F yv_X2_isBoat (ct_X2_isBoat z.2.1 g hw_1 x1) (by decide) m562 hw_1 rfl rfl rfl (Nat.le_of_ble_eq_true rfl) dX7_split_5 (fun v_3 h_2 e_v_3 => ?_)
  refine s_if_eq F 18 dX7_split_8 (by decide) (fun _ => ?_) (fun _ => ?_)
  · refine s_ldc F (v := (-1000001)) dX7_split_18 m280 ?_
    exact s_iret F dX7_split_20
  · refine s_iload_n F dX7_split_11 rfl 2 rfl ?_
    refine s_callSi (f := fun hh => f_X7_isTrade x2 hh) (As := [.int x2]) F ys_X7_isTrade (ct_X7_isTrade z.2.1 g x2) (by decide) m638 rfl rfl (Nat.le_of_ble_eq_true rfl) dX7_split_12 (fun v_5 h_4 e_v_5 => ?_)
    refine s_if_ne F 21 dX7_split_15 (by decide) (fun _ => ?_) (fun _ => ?_)
    · refine s_aload_n F dX7_split_21 rfl 0 rfl ?_
      have hw_6 := wf_ref F.2.2.2.2.2.2.1 hq 3 17 (.inl 2) rfl
      refine s_getr F ciX7 3 17 (.inl 2) hq (by decide) rfl rfl m242 dX7_split_22 ?_
      refine s_iload_n F dX7_split_25 rfl 1 rfl ?_
      refine s_callVi (f := fun hh => f_X2_isGone (q + 17) x1 hh) (As := [.int x1]) F yv_X2_isGone (ct_X2_isGone z.2.1 g hw_6 x1) (by decide) m566 hw_6 rfl rfl rfl (Nat.le_of_ble_eq_true rfl) dX7_split_26 (fun v_8 h_7 e_v_8 => ?_)
      refine s_if_ne F 55 dX7_split_29 (by decide) (fun _ => ?_) (fun _ => ?_)
      · refine s_ldc F (v := (-1000002)) dX7_split_55 m613 ?_
        exact s_iret F dX7_split_57
      · refine s_aload_n F dX7_split_32 rfl 0 rfl ?_
        have hw_9 := wf_ref F.2.2.2.2.2.2.1 hq 3 17 (.inl 2) rfl
        refine s_getr F ciX7 3 17 (.inl 2) hq (by decide) rfl rfl m242 dX7_split_33 ?_
        refine s_iload_n F dX7_split_36 rfl 1 rfl ?_
        refine s_iload_n F dX7_split_37 rfl 2 rfl ?_
        refine s_callVi (f := fun hh => f_X2_loadOf (q + 17) x1 x2 hh) (As := [.int x1, .int x2]) F yv_X2_loadOf (ct_X2_loadOf z.2.1 g hw_9 x1 x2) (by decide) m641 hw_9 rfl rfl rfl (Nat.le_of_ble_eq_true rfl) dX7_split_38 (fun v_11 h_10 e_v_11 => ?_)
        refine s_if_eq F 55 dX7_split_41 (by decide) (fun _ => ?_) (fun _ => ?_)
        · refine s_ldc F (v := (-1000002)) dX7_split_55 m613 ?_
          exact s_iret F dX7_split_57
        · refine s_aload_n F dX7_split_44 rfl 0 rfl ?_
          have hw_12 := wf_ref F.2.2.2.2.2.2.1 hq 3 17 (.inl 2) rfl
          refine s_getr F ciX7 3 17 (.inl 2) hq (by decide) rfl rfl m242 dX7_split_45 ?_
          refine s_iload_n F dX7_split_48 rfl 1 rfl ?_
          refine s_callVi (f := fun hh => f_X2_isMixed (q + 17) x1 hh) (As := [.int x1]) F yv_X2_isMixed (ct_X2_isMixed z.2.1 g hw_12 x1) (by decide) m642 hw_12 rfl rfl rfl (Nat.le_of_ble_eq_true rfl) dX7_split_49 (fun v_14 h_13 e_v_14 => ?_)
          refine s_if_ne F 58 dX7_split_52 (by decide) (fun _ => ?_) (fun _ => ?_)
          · refine s_aload_n F dX7_split_58 rfl 0 rfl ?_
            have hw_15 := wf_ref F.2.2.2.2.2.2.1 hq 3 17 (.inl 2) rfl
            refine s_getr F ciX7 3 17 (.inl 2) hq (by decide) rfl rfl m242 dX7_split_59 ?_
            refine s_getiN F ciX2 2 hw_15 (by decide) rfl rfl (List.mem_of_getElem? (i := 3) rfl) dX7_split_62 ?_
            refine s_bipush F (v := 6) dX7_split_65 (by decide) ?_
            refine s_icmp_lt F 73 dX7_split_67 (by decide) (fun _ => ?_) (fun _ => ?_)
            · refine s_aload_n F dX7_split_73 rfl 0 rfl ?_
              have hw_16 := wf_ref F.2.2.2.2.2.2.1 hq 3 17 (.inl 2) rfl
              refine s_getr F ciX7 3 17 (.inl 2) hq (by decide) rfl rfl m242 dX7_split_74 ?_
              refine s_iload_n F dX7_split_77 rfl 1 rfl ?_
              refine s_iload_n F dX7_split_78 rfl 2 rfl ?_
              refine s_callVi (f := fun hh => f_X2_splitOff (q + 17) x1 x2 hh) (As := [.int x1, .int x2]) F yv_X2_splitOff (ct_X2_splitOff z.2.1 g hw_16 x1 x2) (by decide) m643 hw_16 rfl rfl rfl (Nat.le_of_ble_eq_true rfl) dX7_split_79 (fun v_18 h_17 e_v_18 => ?_)
              refine s_istore_n F (lv' := [(3, .int v_18), (0, .ref (gad g q)), (1, .int x1), (2, .int x2)]) dX7_split_82 rfl (by decide) rfl ?_
              refine s_aload_n F dX7_split_83 rfl 1 rfl ?_
              have hw_19 := wf_ref F.2.2.2.2.2.2.1 hq 6 44 (.inl 0) rfl
              refine s_getr F ciX7 6 44 (.inl 0) hq (by decide) rfl rfl m245 dX7_split_84 ?_
              refine s_iconst F (v := 3) dX7_split_87 (by decide) ?_
              refine s_iload_n F dX7_split_88 rfl 2 rfl ?_
              refine s_iload_n F dX7_split_89 rfl 3 rfl ?_
              refine s_iconst F (v := 0) dX7_split_90 (by decide) ?_
              refine s_callVu (f := fun hh => f_X0_keep (q + 44) 3 x1 x2 0 hh) (As := [.int 3, .int x1, .int x2, .int 0]) F yv_X0_keep (ct_X0_keep z.2.1 g hw_19 3 x1 x2 0) (by decide) m544 hw_19 rfl rfl rfl (Nat.le_of_ble_eq_true rfl) dX7_split_91 (fun _ h_20 e_v_21 => ?_)
              refine s_iload_n F dX7_split_94 rfl 0 rfl ?_
              exact s_iret F dX7_split_95
            · refine s_ldc F (v := (-1000003)) dX7_split_70 m348 ?_
              exact s_iret F dX7_split_72
          · refine s_ldc F (v := (-1000002)) dX7_split_55 m613 ?_
            exact s_iret F dX7_split_57
    · refine s_ldc F (v := (-1000001)) dX7_split_18 m280 ?_
      exact s_iret F dX7_split_20
theorem dX7_hour_0 : decode cX7_hour 0 = .ok (.aload_n 0, 1) := by decide +kernel
theorem dX7_hour_1 : decode cX7_hour 1 = .ok (.getfield 33, 3) := by decide +kernel
theorem dX7_hour_4 : decode cX7_hour 4 = .ok (.getfield 205, 3) := by decide +kernel
theorem dX7_hour_7 : decode cX7_hour 7 = .ok (.ifCond .ne 6, 3) := by decide +kernel
theorem dX7_hour_10 : decode cX7_hour 10 = .ok (.ldc 183, 2) := by decide +kernel
theorem dX7_hour_12 : decode cX7_hour 12 = .ok (.ireturn, 1) := by decide +kernel
theorem dX7_hour_13 : decode cX7_hour 13 = .ok (.aload_n 0, 1) := by decide +kernel
theorem dX7_hour_14 : decode cX7_hour 14 = .ok (.getfield 33, 3) := by decide +kernel
theorem dX7_hour_17 : decode cX7_hour 17 = .ok (.getfield 171, 3) := by decide +kernel
theorem dX7_hour_20 : decode cX7_hour 20 = .ok (.bipush 11, 2) := by decide +kernel
theorem dX7_hour_22 : decode cX7_hour 22 = .ok (.if_icmp .lt 6, 3) := by decide +kernel
theorem dX7_hour_25 : decode cX7_hour 25 = .ok (.ldc 109, 2) := by decide +kernel
theorem dX7_hour_27 : decode cX7_hour 27 = .ok (.ireturn, 1) := by decide +kernel
theorem dX7_hour_28 : decode cX7_hour 28 = .ok (.aload_n 0, 1) := by decide +kernel
theorem dX7_hour_29 : decode cX7_hour 29 = .ok (.getfield 33, 3) := by decide +kernel
theorem dX7_hour_32 : decode cX7_hour 32 = .ok (.dup, 1) := by decide +kernel
theorem dX7_hour_33 : decode cX7_hour 33 = .ok (.getfield 171, 3) := by decide +kernel
theorem dX7_hour_36 : decode cX7_hour 36 = .ok (.iconst 1, 1) := by decide +kernel
theorem dX7_hour_37 : decode cX7_hour 37 = .ok (.iadd, 1) := by decide +kernel
theorem dX7_hour_38 : decode cX7_hour 38 = .ok (.putfield 171, 3) := by decide +kernel
theorem dX7_hour_41 : decode cX7_hour 41 = .ok (.aload_n 0, 1) := by decide +kernel
theorem dX7_hour_42 : decode cX7_hour 42 = .ok (.getfield 46, 3) := by decide +kernel
theorem dX7_hour_45 : decode cX7_hour 45 = .ok (.iconst 4, 1) := by decide +kernel
theorem dX7_hour_46 : decode cX7_hour 46 = .ok (.iconst 0, 1) := by decide +kernel
theorem dX7_hour_47 : decode cX7_hour 47 = .ok (.iconst 0, 1) := by decide +kernel
theorem dX7_hour_48 : decode cX7_hour 48 = .ok (.iconst 0, 1) := by decide +kernel
theorem dX7_hour_49 : decode cX7_hour 49 = .ok (.invokevirtual 152, 3) := by decide +kernel
theorem dX7_hour_52 : decode cX7_hour 52 = .ok (.aload_n 0, 1) := by decide +kernel
theorem dX7_hour_53 : decode cX7_hour 53 = .ok (.getfield 33, 3) := by decide +kernel
theorem dX7_hour_56 : decode cX7_hour 56 = .ok (.getfield 171, 3) := by decide +kernel
theorem dX7_hour_59 : decode cX7_hour 59 = .ok (.ireturn, 1) := by decide +kernel
theorem yv_X7_hour : YV yX7_hour cX7_hour 1 (some .int) 0 := ⟨m648, m649, m1, m650, ⟨by decide +kernel, by decide +kernel, by decide +kernel⟩, by decide⟩
noncomputable def f_X7_hour (q : Nat) (h : AH) : Option (Int32 × AH) := if (h (q + 17) 0) = 0 then (some ((-1000002), h)) else (if (h (q + 17) 3) < 11 then (lt (hset h (q + 17) 3 ((h (q + 17) 3) + 1)) (fun h_4 => bd (f_X0_keep (q + 44) 4 0 0 0 h_4) (fun _ h_6 => some (h_6 (q + 17) 3, h_6)))) else (some ((-1000003), h)))
set_option maxRecDepth 20000 in
set_option maxHeartbeats 4000000 in
theorem ct_X7_hour (l : Launch) (g : GC) {q : Nat} (hq : (gL g)[q]? = some (.inl 7)) : Ct l yX7_hour cX7_hour 1 (some .int) 2 [.ref (gad g q)] g mkI (fun h => f_X7_hour q h) := by
  refine Ct.of (by decide +kernel) (Nat.le_of_ble_eq_true rfl) (fun z A h _ F => ?_)
  show Snd z 1 g A (QF z g A mkI) 0 [(0, .ref (gad g q))] [] h (f_X7_hour q h)
  unfold f_X7_hour
  refine s_aload_n F dX7_hour_0 rfl 0 rfl ?_
  have hw_1 := wf_ref F.2.2.2.2.2.2.1 hq 3 17 (.inl 2) rfl
  refine s_getr F ciX7 3 17 (.inl 2) hq (by decide) rfl rfl m242 dX7_hour_1 ?_
  refine s_getiN F ciX2 0 hw_1 (by decide) rfl rfl (List.mem_of_getElem? (i := 4) rfl) dX7_hour_4 ?_
  refine s_if_ne F 13 dX7_hour_7 (by decide) (fun _ => ?_) (fun _ => ?_)
  · refine s_aload_n F dX7_hour_13 rfl 0 rfl ?_
    have hw_2 := wf_ref F.2.2.2.2.2.2.1 hq 3 17 (.inl 2) rfl
    refine s_getr F ciX7 3 17 (.inl 2) hq (by decide) rfl rfl m242 dX7_hour_14 ?_
    refine s_getiN F ciX2 3 hw_2 (by decide) rfl rfl (List.mem_of_getElem? (i := 2) rfl) dX7_hour_17 ?_
    refine s_bipush F (v := 11) dX7_hour_20 (by decide) ?_
    refine s_icmp_lt F 28 dX7_hour_22 (by decide) (fun _ => ?_) (fun _ => ?_)
    · refine s_aload_n F dX7_hour_28 rfl 0 rfl ?_
      have hw_3 := wf_ref F.2.2.2.2.2.2.1 hq 3 17 (.inl 2) rfl
      refine s_getr F ciX7 3 17 (.inl 2) hq (by decide) rfl rfl m242 dX7_hour_29 ?_
      refine s_dup F dX7_hour_32 rfl ?_
      refine s_getiN F ciX2 3 hw_3 (by decide) rfl rfl (List.mem_of_getElem? (i := 2) rfl) dX7_hour_33 ?_
      refine s_iconst F (v := 1) dX7_hour_36 (by decide) ?_
      refine s_iadd F dX7_hour_37 ?_
      refine s_putN F ciX2 (k := 3) hw_3 (by decide) rfl rfl rfl rfl (List.mem_of_getElem? (i := 2) rfl) dX7_hour_38 ?_
      refine s_letH (fun h_4 => ?_)
      refine s_aload_n F dX7_hour_41 rfl 0 rfl ?_
      have hw_5 := wf_ref F.2.2.2.2.2.2.1 hq 6 44 (.inl 0) rfl
      refine s_getr F ciX7 6 44 (.inl 0) hq (by decide) rfl rfl m245 dX7_hour_42 ?_
      refine s_iconst F (v := 4) dX7_hour_45 (by decide) ?_
      refine s_iconst F (v := 0) dX7_hour_46 (by decide) ?_
      refine s_iconst F (v := 0) dX7_hour_47 (by decide) ?_
      refine s_iconst F (v := 0) dX7_hour_48 (by decide) ?_
      refine s_callVu (f := fun hh => f_X0_keep (q + 44) 4 0 0 0 hh) (As := [.int 4, .int 0, .int 0, .int 0]) F yv_X0_keep (ct_X0_keep z.2.1 g hw_5 4 0 0 0) (by decide) m544 hw_5 rfl rfl rfl (Nat.le_of_ble_eq_true rfl) dX7_hour_49 (fun _ h_6 e_v_7 => ?_)
      refine s_aload_n F dX7_hour_52 rfl 0 rfl ?_
      have hw_8 := wf_ref F.2.2.2.2.2.2.1 hq 3 17 (.inl 2) rfl
      refine s_getr F ciX7 3 17 (.inl 2) hq (by decide) rfl rfl m242 dX7_hour_53 ?_
      refine s_getiN F ciX2 3 hw_8 (by decide) rfl rfl (List.mem_of_getElem? (i := 2) rfl) dX7_hour_56 ?_
      exact s_iret F dX7_hour_59
    · refine s_ldc F (v := (-1000003)) dX7_hour_25 m348 ?_
      exact s_iret F dX7_hour_27
  · refine s_ldc F (v := (-1000002)) dX7_hour_10 m613 ?_
    exact s_iret F dX7_hour_12
theorem dX7_undo_0 : decode cX7_undo 0 = .ok (.aload_n 0, 1) := by decide +kernel
theorem dX7_undo_1 : decode cX7_undo 1 = .ok (.getfield 46, 3) := by decide +kernel
theorem dX7_undo_4 : decode cX7_undo 4 = .ok (.invokevirtual 209, 3) := by decide +kernel
theorem dX7_undo_7 : decode cX7_undo 7 = .ok (.ifCond .ne 6, 3) := by decide +kernel
theorem dX7_undo_10 : decode cX7_undo 10 = .ok (.ldc 183, 2) := by decide +kernel
theorem dX7_undo_12 : decode cX7_undo 12 = .ok (.ireturn, 1) := by decide +kernel
theorem dX7_undo_13 : decode cX7_undo 13 = .ok (.aload_n 0, 1) := by decide +kernel
theorem dX7_undo_14 : decode cX7_undo 14 = .ok (.getfield 46, 3) := by decide +kernel
theorem dX7_undo_17 : decode cX7_undo 17 = .ok (.aload_n 0, 1) := by decide +kernel
theorem dX7_undo_18 : decode cX7_undo 18 = .ok (.getfield 33, 3) := by decide +kernel
theorem dX7_undo_21 : decode cX7_undo 21 = .ok (.invokevirtual 212, 3) := by decide +kernel
theorem dX7_undo_24 : decode cX7_undo 24 = .ok (.aload_n 0, 1) := by decide +kernel
theorem dX7_undo_25 : decode cX7_undo 25 = .ok (.getfield 46, 3) := by decide +kernel
theorem dX7_undo_28 : decode cX7_undo 28 = .ok (.invokevirtual 209, 3) := by decide +kernel
theorem dX7_undo_31 : decode cX7_undo 31 = .ok (.ireturn, 1) := by decide +kernel
theorem yv_X7_undo : YV yX7_undo cX7_undo 1 (some .int) 0 := ⟨m652, m653, m1, m654, ⟨by decide +kernel, by decide +kernel, by decide +kernel⟩, by decide⟩
noncomputable def f_X7_undo (q : Nat) (h : AH) : Option (Int32 × AH) := bd (f_X0_kept (q + 44) h) (fun v_3 h_2 => if v_3 = 0 then (some ((-1000002), h_2)) else (bd (f_X0_takeBack (q + 44) (q + 17) h_2) (fun _ h_6 => bd (f_X0_kept (q + 44) h_6) (fun v_10 h_9 => some (v_10, h_9)))))
set_option maxRecDepth 20000 in
set_option maxHeartbeats 4000000 in
theorem ct_X7_undo (l : Launch) (g : GC) {q : Nat} (hq : (gL g)[q]? = some (.inl 7)) : Ct l yX7_undo cX7_undo 1 (some .int) 5 [.ref (gad g q)] g mkI (fun h => f_X7_undo q h) := by
  refine Ct.of (by decide +kernel) (Nat.le_of_ble_eq_true rfl) (fun z A h _ F => ?_)
  show Snd z 1 g A (QF z g A mkI) 0 [(0, .ref (gad g q))] [] h (f_X7_undo q h)
  unfold f_X7_undo
  refine s_aload_n F dX7_undo_0 rfl 0 rfl ?_
  have hw_1 := wf_ref F.2.2.2.2.2.2.1 hq 6 44 (.inl 0) rfl
  refine s_getr F ciX7 6 44 (.inl 0) hq (by decide) rfl rfl m245 dX7_undo_1 ?_
  refine s_callVi (f := fun hh => f_X0_kept (q + 44) hh) (As := []) F yv_X0_kept (ct_X0_kept z.2.1 g hw_1) (by decide) m655 hw_1 rfl rfl rfl (Nat.le_of_ble_eq_true rfl) dX7_undo_4 (fun v_3 h_2 e_v_3 => ?_)
  refine s_if_ne F 13 dX7_undo_7 (by decide) (fun _ => ?_) (fun _ => ?_)
  · refine s_aload_n F dX7_undo_13 rfl 0 rfl ?_
    have hw_4 := wf_ref F.2.2.2.2.2.2.1 hq 6 44 (.inl 0) rfl
    refine s_getr F ciX7 6 44 (.inl 0) hq (by decide) rfl rfl m245 dX7_undo_14 ?_
    refine s_aload_n F dX7_undo_17 rfl 0 rfl ?_
    have hw_5 := wf_ref F.2.2.2.2.2.2.1 hq 3 17 (.inl 2) rfl
    refine s_getr F ciX7 3 17 (.inl 2) hq (by decide) rfl rfl m242 dX7_undo_18 ?_
    refine s_callVu (f := fun hh => f_X0_takeBack (q + 44) (q + 17) hh) (As := [.ref (gad g (q + 17))]) F yv_X0_takeBack (ct_X0_takeBack z.2.1 g hw_4 hw_5) (by decide) m659 hw_4 rfl rfl rfl (Nat.le_of_ble_eq_true rfl) dX7_undo_21 (fun _ h_6 e_v_7 => ?_)
    refine s_aload_n F dX7_undo_24 rfl 0 rfl ?_
    have hw_8 := wf_ref F.2.2.2.2.2.2.1 hq 6 44 (.inl 0) rfl
    refine s_getr F ciX7 6 44 (.inl 0) hq (by decide) rfl rfl m245 dX7_undo_25 ?_
    refine s_callVi (f := fun hh => f_X0_kept (q + 44) hh) (As := []) F yv_X0_kept (ct_X0_kept z.2.1 g hw_8) (by decide) m655 hw_8 rfl rfl rfl (Nat.le_of_ble_eq_true rfl) dX7_undo_28 (fun v_10 h_9 e_v_10 => ?_)
    exact s_iret F dX7_undo_31
  · refine s_ldc F (v := (-1000002)) dX7_undo_10 m613 ?_
    exact s_iret F dX7_undo_12
theorem dX7_arch_0 : decode cX7_arch 0 = .ok (.aload_n 0, 1) := by decide +kernel
theorem dX7_arch_1 : decode cX7_arch 1 = .ok (.getfield 33, 3) := by decide +kernel
theorem dX7_arch_4 : decode cX7_arch 4 = .ok (.iload_n 1, 1) := by decide +kernel
theorem dX7_arch_5 : decode cX7_arch 5 = .ok (.invokevirtual 142, 3) := by decide +kernel
theorem dX7_arch_8 : decode cX7_arch 8 = .ok (.ifCond .ne 6, 3) := by decide +kernel
theorem dX7_arch_11 : decode cX7_arch 11 = .ok (.ldc 68, 2) := by decide +kernel
theorem dX7_arch_13 : decode cX7_arch 13 = .ok (.ireturn, 1) := by decide +kernel
theorem dX7_arch_14 : decode cX7_arch 14 = .ok (.iload_n 2, 1) := by decide +kernel
theorem dX7_arch_15 : decode cX7_arch 15 = .ok (.tableswitch 113 0 6 #[41, 51, 61, 71, 81, 93, 103], 41) := by decide +kernel
theorem dX7_arch_56 : decode cX7_arch 56 = .ok (.aload_n 0, 1) := by decide +kernel
theorem dX7_arch_57 : decode cX7_arch 57 = .ok (.getfield 33, 3) := by decide +kernel
theorem dX7_arch_60 : decode cX7_arch 60 = .ok (.iconst 0, 1) := by decide +kernel
theorem dX7_arch_61 : decode cX7_arch 61 = .ok (.iload_n 1, 1) := by decide +kernel
theorem dX7_arch_62 : decode cX7_arch 62 = .ok (.invokevirtual 145, 3) := by decide +kernel
theorem dX7_arch_65 : decode cX7_arch 65 = .ok (.ireturn, 1) := by decide +kernel
theorem dX7_arch_66 : decode cX7_arch 66 = .ok (.aload_n 0, 1) := by decide +kernel
theorem dX7_arch_67 : decode cX7_arch 67 = .ok (.getfield 33, 3) := by decide +kernel
theorem dX7_arch_70 : decode cX7_arch 70 = .ok (.iconst 1, 1) := by decide +kernel
theorem dX7_arch_71 : decode cX7_arch 71 = .ok (.iload_n 1, 1) := by decide +kernel
theorem dX7_arch_72 : decode cX7_arch 72 = .ok (.invokevirtual 145, 3) := by decide +kernel
theorem dX7_arch_75 : decode cX7_arch 75 = .ok (.ireturn, 1) := by decide +kernel
theorem dX7_arch_76 : decode cX7_arch 76 = .ok (.aload_n 0, 1) := by decide +kernel
theorem dX7_arch_77 : decode cX7_arch 77 = .ok (.getfield 33, 3) := by decide +kernel
theorem dX7_arch_80 : decode cX7_arch 80 = .ok (.getfield 215, 3) := by decide +kernel
theorem dX7_arch_83 : decode cX7_arch 83 = .ok (.iload_n 1, 1) := by decide +kernel
theorem dX7_arch_84 : decode cX7_arch 84 = .ok (.iaload, 1) := by decide +kernel
theorem dX7_arch_85 : decode cX7_arch 85 = .ok (.ireturn, 1) := by decide +kernel
theorem dX7_arch_86 : decode cX7_arch 86 = .ok (.aload_n 0, 1) := by decide +kernel
theorem dX7_arch_87 : decode cX7_arch 87 = .ok (.getfield 33, 3) := by decide +kernel
theorem dX7_arch_90 : decode cX7_arch 90 = .ok (.getfield 219, 3) := by decide +kernel
theorem dX7_arch_93 : decode cX7_arch 93 = .ok (.iload_n 1, 1) := by decide +kernel
theorem dX7_arch_94 : decode cX7_arch 94 = .ok (.iaload, 1) := by decide +kernel
theorem dX7_arch_95 : decode cX7_arch 95 = .ok (.ireturn, 1) := by decide +kernel
theorem dX7_arch_96 : decode cX7_arch 96 = .ok (.aload_n 0, 1) := by decide +kernel
theorem dX7_arch_97 : decode cX7_arch 97 = .ok (.getfield 33, 3) := by decide +kernel
theorem dX7_arch_100 : decode cX7_arch 100 = .ok (.getfield 156, 3) := by decide +kernel
theorem dX7_arch_103 : decode cX7_arch 103 = .ok (.iload_n 1, 1) := by decide +kernel
theorem dX7_arch_104 : decode cX7_arch 104 = .ok (.invokestatic 159, 3) := by decide +kernel
theorem dX7_arch_107 : decode cX7_arch 107 = .ok (.ireturn, 1) := by decide +kernel
theorem dX7_arch_108 : decode cX7_arch 108 = .ok (.aload_n 0, 1) := by decide +kernel
theorem dX7_arch_109 : decode cX7_arch 109 = .ok (.getfield 33, 3) := by decide +kernel
theorem dX7_arch_112 : decode cX7_arch 112 = .ok (.iconst 0, 1) := by decide +kernel
theorem dX7_arch_113 : decode cX7_arch 113 = .ok (.iload_n 1, 1) := by decide +kernel
theorem dX7_arch_114 : decode cX7_arch 114 = .ok (.invokevirtual 180, 3) := by decide +kernel
theorem dX7_arch_117 : decode cX7_arch 117 = .ok (.ireturn, 1) := by decide +kernel
theorem dX7_arch_118 : decode cX7_arch 118 = .ok (.aload_n 0, 1) := by decide +kernel
theorem dX7_arch_119 : decode cX7_arch 119 = .ok (.getfield 33, 3) := by decide +kernel
theorem dX7_arch_122 : decode cX7_arch 122 = .ok (.iconst 1, 1) := by decide +kernel
theorem dX7_arch_123 : decode cX7_arch 123 = .ok (.iload_n 1, 1) := by decide +kernel
theorem dX7_arch_124 : decode cX7_arch 124 = .ok (.invokevirtual 180, 3) := by decide +kernel
theorem dX7_arch_127 : decode cX7_arch 127 = .ok (.ireturn, 1) := by decide +kernel
theorem dX7_arch_128 : decode cX7_arch 128 = .ok (.ldc 68, 2) := by decide +kernel
theorem dX7_arch_130 : decode cX7_arch 130 = .ok (.ireturn, 1) := by decide +kernel
theorem yv_X7_arch : YV yX7_arch cX7_arch 3 (some .int) 2 := ⟨m674, m675, m1, m676, ⟨by decide +kernel, by decide +kernel, by decide +kernel⟩, by decide⟩
noncomputable def f_X7_arch (q : Nat) (x1 : Int32) (x2 : Int32) (h : AH) : Option (Int32 × AH) := bd (f_X2_isArch (q + 17) x1 h) (fun v_3 h_2 => if v_3 = 0 then (some ((-1000001), h_2)) else (if x2 = 0 then (bd (f_X2_charterOf (q + 17) 0 x1 h_2) (fun v_6 h_5 => some (v_6, h_5))) else (if x2 = 1 then (bd (f_X2_charterOf (q + 17) 1 x1 h_2) (fun v_9 h_8 => some (v_9, h_8))) else (if x2 = 2 then (ck x1 6 (some (h_2 (q + 17 + 3) (x1 : Int32).toNatClampNeg, h_2))) else (if x2 = 3 then (ck x1 6 (some (h_2 (q + 17 + 4) (x1 : Int32).toNatClampNeg, h_2))) else (if x2 = 4 then (bd (f_X7_bitOf (h_2 (q + 17) 5) x1 h_2) (fun v_16 h_15 => some (v_16, h_15))) else (if x2 = 5 then (bd (f_X2_wentIn (q + 17) 0 x1 h_2) (fun v_19 h_18 => some (v_19, h_18))) else (if x2 = 6 then (bd (f_X2_wentIn (q + 17) 1 x1 h_2) (fun v_22 h_21 => some (v_22, h_21))) else (some ((-1000001), h_2))))))))))
set_option maxRecDepth 20000 in
set_option maxHeartbeats 4000000 in
theorem ct_X7_arch (l : Launch) (g : GC) {q : Nat} (hq : (gL g)[q]? = some (.inl 7)) (x1 : Int32) (x2 : Int32) : Ct l yX7_arch cX7_arch 3 (some .int) 3 [.ref (gad g q), .int x1, .int x2] g mkI (fun h => f_X7_arch q x1 x2 h) := by
  refine Ct.of (by decide +kernel) (Nat.le_of_ble_eq_true rfl) (fun z A h _ F => ?_)
  show Snd z 3 g A (QF z g A mkI) 0 [(0, .ref (gad g q)), (1, .int x1), (2, .int x2)] [] h (f_X7_arch q x1 x2 h)
  unfold f_X7_arch
  refine s_aload_n F dX7_arch_0 rfl 0 rfl ?_
  have hw_1 := wf_ref F.2.2.2.2.2.2.1 hq 3 17 (.inl 2) rfl
  refine s_getr F ciX7 3 17 (.inl 2) hq (by decide) rfl rfl m242 dX7_arch_1 ?_
  refine s_iload_n F dX7_arch_4 rfl 1 rfl ?_
  refine s_callVi (f := fun hh => f_X2_isArch (q + 17) x1 hh) (As := [.int x1]) F yv_X2_isArch (ct_X2_isArch z.2.1 g hw_1 x1) (by decide) m531 hw_1 rfl rfl rfl (Nat.le_of_ble_eq_true rfl) dX7_arch_5 (fun v_3 h_2 e_v_3 => ?_)
  refine s_if_ne F 14 dX7_arch_8 (by decide) (fun _ => ?_) (fun _ => ?_)
  · refine s_iload_n F dX7_arch_14 rfl 2 rfl ?_
    refine s_case 0 ?_ (fun n0 => ?_)
    · refine s_tabIn F (off := 41) 56 dX7_arch_15 (by decide) (by decide) rfl (by decide) ?_
      refine s_aload_n F dX7_arch_56 rfl 0 rfl ?_
      have hw_4 := wf_ref F.2.2.2.2.2.2.1 hq 3 17 (.inl 2) rfl
      refine s_getr F ciX7 3 17 (.inl 2) hq (by decide) rfl rfl m242 dX7_arch_57 ?_
      refine s_iconst F (v := 0) dX7_arch_60 (by decide) ?_
      refine s_iload_n F dX7_arch_61 rfl 1 rfl ?_
      refine s_callVi (f := fun hh => f_X2_charterOf (q + 17) 0 x1 hh) (As := [.int 0, .int x1]) F yv_X2_charterOf (ct_X2_charterOf z.2.1 g hw_4 0 x1) (by decide) m535 hw_4 rfl rfl rfl (Nat.le_of_ble_eq_true rfl) dX7_arch_62 (fun v_6 h_5 e_v_6 => ?_)
      exact s_iret F dX7_arch_65
    refine s_case 1 ?_ (fun n1 => ?_)
    · refine s_tabIn F (off := 51) 66 dX7_arch_15 (by decide) (by decide) rfl (by decide) ?_
      refine s_aload_n F dX7_arch_66 rfl 0 rfl ?_
      have hw_7 := wf_ref F.2.2.2.2.2.2.1 hq 3 17 (.inl 2) rfl
      refine s_getr F ciX7 3 17 (.inl 2) hq (by decide) rfl rfl m242 dX7_arch_67 ?_
      refine s_iconst F (v := 1) dX7_arch_70 (by decide) ?_
      refine s_iload_n F dX7_arch_71 rfl 1 rfl ?_
      refine s_callVi (f := fun hh => f_X2_charterOf (q + 17) 1 x1 hh) (As := [.int 1, .int x1]) F yv_X2_charterOf (ct_X2_charterOf z.2.1 g hw_7 1 x1) (by decide) m535 hw_7 rfl rfl rfl (Nat.le_of_ble_eq_true rfl) dX7_arch_72 (fun v_9 h_8 e_v_9 => ?_)
      exact s_iret F dX7_arch_75
    refine s_case 2 ?_ (fun n2 => ?_)
    · refine s_tabIn F (off := 61) 76 dX7_arch_15 (by decide) (by decide) rfl (by decide) ?_
      refine s_aload_n F dX7_arch_76 rfl 0 rfl ?_
      have hw_10 := wf_ref F.2.2.2.2.2.2.1 hq 3 17 (.inl 2) rfl
      refine s_getr F ciX7 3 17 (.inl 2) hq (by decide) rfl rfl m242 dX7_arch_77 ?_
      have hw_11 := wf_ref F.2.2.2.2.2.2.1 hw_10 9 3 (.inr (0, 6)) rfl
      refine s_getrN F ciX2 9 3 (.inr (0, 6)) hw_10 (by decide) rfl rfl (List.mem_of_getElem? (i := 5) rfl) dX7_arch_80 ?_
      refine s_iload_n F dX7_arch_83 rfl 1 rfl ?_
      refine s_iald F hw_11 dX7_arch_84 ?_
      exact s_iret F dX7_arch_85
    refine s_case 3 ?_ (fun n3 => ?_)
    · refine s_tabIn F (off := 71) 86 dX7_arch_15 (by decide) (by decide) rfl (by decide) ?_
      refine s_aload_n F dX7_arch_86 rfl 0 rfl ?_
      have hw_12 := wf_ref F.2.2.2.2.2.2.1 hq 3 17 (.inl 2) rfl
      refine s_getr F ciX7 3 17 (.inl 2) hq (by decide) rfl rfl m242 dX7_arch_87 ?_
      have hw_13 := wf_ref F.2.2.2.2.2.2.1 hw_12 10 4 (.inr (0, 6)) rfl
      refine s_getrN F ciX2 10 4 (.inr (0, 6)) hw_12 (by decide) rfl rfl (List.mem_of_getElem? (i := 6) rfl) dX7_arch_90 ?_
      refine s_iload_n F dX7_arch_93 rfl 1 rfl ?_
      refine s_iald F hw_13 dX7_arch_94 ?_
      exact s_iret F dX7_arch_95
    refine s_case 4 ?_ (fun n4 => ?_)
    · refine s_tabIn F (off := 81) 96 dX7_arch_15 (by decide) (by decide) rfl (by decide) ?_
      refine s_aload_n F dX7_arch_96 rfl 0 rfl ?_
      have hw_14 := wf_ref F.2.2.2.2.2.2.1 hq 3 17 (.inl 2) rfl
      refine s_getr F ciX7 3 17 (.inl 2) hq (by decide) rfl rfl m242 dX7_arch_97 ?_
      refine s_getiN F ciX2 5 hw_14 (by decide) rfl rfl (List.mem_of_getElem? (i := 1) rfl) dX7_arch_100 ?_
      refine s_iload_n F dX7_arch_103 rfl 1 rfl ?_
      refine s_callSi (f := fun hh => f_X7_bitOf (h_2 (q + 17) 5) x1 hh) (As := [.int (h_2 (q + 17) 5), .int x1]) F ys_X7_bitOf (ct_X7_bitOf z.2.1 g (h_2 (q + 17) 5) x1) (by decide) m552 rfl rfl (Nat.le_of_ble_eq_true rfl) dX7_arch_104 (fun v_16 h_15 e_v_16 => ?_)
      exact s_iret F dX7_arch_107
    refine s_case 5 ?_ (fun n5 => ?_)
    · refine s_tabIn F (off := 93) 108 dX7_arch_15 (by decide) (by decide) rfl (by decide) ?_
      refine s_aload_n F dX7_arch_108 rfl 0 rfl ?_
      have hw_17 := wf_ref F.2.2.2.2.2.2.1 hq 3 17 (.inl 2) rfl
      refine s_getr F ciX7 3 17 (.inl 2) hq (by decide) rfl rfl m242 dX7_arch_109 ?_
      refine s_iconst F (v := 0) dX7_arch_112 (by decide) ?_
      refine s_iload_n F dX7_arch_113 rfl 1 rfl ?_
      refine s_callVi (f := fun hh => f_X2_wentIn (q + 17) 0 x1 hh) (As := [.int 0, .int x1]) F yv_X2_wentIn (ct_X2_wentIn z.2.1 g hw_17 0 x1) (by decide) m609 hw_17 rfl rfl rfl (Nat.le_of_ble_eq_true rfl) dX7_arch_114 (fun v_19 h_18 e_v_19 => ?_)
      exact s_iret F dX7_arch_117
    refine s_case 6 ?_ (fun n6 => ?_)
    · refine s_tabIn F (off := 103) 118 dX7_arch_15 (by decide) (by decide) rfl (by decide) ?_
      refine s_aload_n F dX7_arch_118 rfl 0 rfl ?_
      have hw_20 := wf_ref F.2.2.2.2.2.2.1 hq 3 17 (.inl 2) rfl
      refine s_getr F ciX7 3 17 (.inl 2) hq (by decide) rfl rfl m242 dX7_arch_119 ?_
      refine s_iconst F (v := 1) dX7_arch_122 (by decide) ?_
      refine s_iload_n F dX7_arch_123 rfl 1 rfl ?_
      refine s_callVi (f := fun hh => f_X2_wentIn (q + 17) 1 x1 hh) (As := [.int 1, .int x1]) F yv_X2_wentIn (ct_X2_wentIn z.2.1 g hw_20 1 x1) (by decide) m609 hw_20 rfl rfl rfl (Nat.le_of_ble_eq_true rfl) dX7_arch_124 (fun v_22 h_21 e_v_22 => ?_)
      exact s_iret F dX7_arch_127
    refine s_tabOut F 128 dX7_arch_15 (by decide) (s_out 0 6 7 (by decide) (by decide) (by decide) (fun j hj => ?_)) ?_
    · rcases (show j = 0 ∨ j = 1 ∨ j = 2 ∨ j = 3 ∨ j = 4 ∨ j = 5 ∨ j = 6 by omega) with rfl | rfl | rfl | rfl | rfl | rfl | rfl
      · exact n0
      · exact n1
      · exact n2
      · exact n3
      · exact n4
      · exact n5
      · exact n6
    refine s_ldc F (v := (-1000001)) dX7_arch_128 m280 ?_
    exact s_iret F dX7_arch_130
  · refine s_ldc F (v := (-1000001)) dX7_arch_11 m280 ?_
    exact s_iret F dX7_arch_13
theorem dX7_boat_0 : decode cX7_boat 0 = .ok (.aload_n 0, 1) := by decide +kernel
theorem dX7_boat_1 : decode cX7_boat 1 = .ok (.getfield 33, 3) := by decide +kernel
theorem dX7_boat_4 : decode cX7_boat 4 = .ok (.iload_n 1, 1) := by decide +kernel
theorem dX7_boat_5 : decode cX7_boat 5 = .ok (.invokevirtual 165, 3) := by decide +kernel
theorem dX7_boat_8 : decode cX7_boat 8 = .ok (.ifCond .ne 6, 3) := by decide +kernel
theorem dX7_boat_11 : decode cX7_boat 11 = .ok (.ldc 68, 2) := by decide +kernel
theorem dX7_boat_13 : decode cX7_boat 13 = .ok (.ireturn, 1) := by decide +kernel
theorem dX7_boat_14 : decode cX7_boat 14 = .ok (.iload_n 2, 1) := by decide +kernel
theorem dX7_boat_15 : decode cX7_boat 15 = .ok (.invokestatic 190, 3) := by decide +kernel
theorem dX7_boat_18 : decode cX7_boat 18 = .ok (.ifCond .eq 13, 3) := by decide +kernel
theorem dX7_boat_21 : decode cX7_boat 21 = .ok (.aload_n 0, 1) := by decide +kernel
theorem dX7_boat_22 : decode cX7_boat 22 = .ok (.getfield 33, 3) := by decide +kernel
theorem dX7_boat_25 : decode cX7_boat 25 = .ok (.iload_n 1, 1) := by decide +kernel
theorem dX7_boat_26 : decode cX7_boat 26 = .ok (.iload_n 2, 1) := by decide +kernel
theorem dX7_boat_27 : decode cX7_boat 27 = .ok (.invokevirtual 193, 3) := by decide +kernel
theorem dX7_boat_30 : decode cX7_boat 30 = .ok (.ireturn, 1) := by decide +kernel
theorem dX7_boat_31 : decode cX7_boat 31 = .ok (.iload_n 2, 1) := by decide +kernel
theorem dX7_boat_32 : decode cX7_boat 32 = .ok (.tableswitch 80 4 7 #[32, 42, 54, 71], 32) := by decide +kernel
theorem dX7_boat_64 : decode cX7_boat 64 = .ok (.aload_n 0, 1) := by decide +kernel
theorem dX7_boat_65 : decode cX7_boat 65 = .ok (.getfield 33, 3) := by decide +kernel
theorem dX7_boat_68 : decode cX7_boat 68 = .ok (.getfield 222, 3) := by decide +kernel
theorem dX7_boat_71 : decode cX7_boat 71 = .ok (.iload_n 1, 1) := by decide +kernel
theorem dX7_boat_72 : decode cX7_boat 72 = .ok (.iaload, 1) := by decide +kernel
theorem dX7_boat_73 : decode cX7_boat 73 = .ok (.ireturn, 1) := by decide +kernel
theorem dX7_boat_74 : decode cX7_boat 74 = .ok (.aload_n 0, 1) := by decide +kernel
theorem dX7_boat_75 : decode cX7_boat 75 = .ok (.getfield 33, 3) := by decide +kernel
theorem dX7_boat_78 : decode cX7_boat 78 = .ok (.getfield 225, 3) := by decide +kernel
theorem dX7_boat_81 : decode cX7_boat 81 = .ok (.iload_n 1, 1) := by decide +kernel
theorem dX7_boat_82 : decode cX7_boat 82 = .ok (.invokestatic 159, 3) := by decide +kernel
theorem dX7_boat_85 : decode cX7_boat 85 = .ok (.ireturn, 1) := by decide +kernel
theorem dX7_boat_86 : decode cX7_boat 86 = .ok (.aload_n 0, 1) := by decide +kernel
theorem dX7_boat_87 : decode cX7_boat 87 = .ok (.getfield 33, 3) := by decide +kernel
theorem dX7_boat_90 : decode cX7_boat 90 = .ok (.iload_n 1, 1) := by decide +kernel
theorem dX7_boat_91 : decode cX7_boat 91 = .ok (.invokevirtual 196, 3) := by decide +kernel
theorem dX7_boat_94 : decode cX7_boat 94 = .ok (.ifCond .eq 7, 3) := by decide +kernel
theorem dX7_boat_97 : decode cX7_boat 97 = .ok (.iconst 1, 1) := by decide +kernel
theorem dX7_boat_98 : decode cX7_boat 98 = .ok (.goto 4, 3) := by decide +kernel
theorem dX7_boat_101 : decode cX7_boat 101 = .ok (.iconst 0, 1) := by decide +kernel
theorem dX7_boat_102 : decode cX7_boat 102 = .ok (.ireturn, 1) := by decide +kernel
theorem dX7_boat_103 : decode cX7_boat 103 = .ok (.aload_n 0, 1) := by decide +kernel
theorem dX7_boat_104 : decode cX7_boat 104 = .ok (.getfield 33, 3) := by decide +kernel
theorem dX7_boat_107 : decode cX7_boat 107 = .ok (.iload_n 1, 1) := by decide +kernel
theorem dX7_boat_108 : decode cX7_boat 108 = .ok (.invokevirtual 228, 3) := by decide +kernel
theorem dX7_boat_111 : decode cX7_boat 111 = .ok (.ireturn, 1) := by decide +kernel
theorem dX7_boat_112 : decode cX7_boat 112 = .ok (.ldc 68, 2) := by decide +kernel
theorem dX7_boat_114 : decode cX7_boat 114 = .ok (.ireturn, 1) := by decide +kernel
theorem yv_X7_boat : YV yX7_boat cX7_boat 3 (some .int) 2 := ⟨m678, m679, m1, m680, ⟨by decide +kernel, by decide +kernel, by decide +kernel⟩, by decide⟩
noncomputable def f_X7_boat (q : Nat) (x1 : Int32) (x2 : Int32) (h : AH) : Option (Int32 × AH) := bd (f_X2_isBoat (q + 17) x1 h) (fun v_3 h_2 => if v_3 = 0 then (some ((-1000001), h_2)) else (bd (f_X7_isTrade x2 h_2) (fun v_5 h_4 => if v_5 = 0 then (if x2 = 4 then (ck x1 6 (some (h_4 (q + 17 + 6) (x1 : Int32).toNatClampNeg, h_4))) else (if x2 = 5 then (bd (f_X7_bitOf (h_4 (q + 17) 6) x1 h_4) (fun v_10 h_9 => some (v_10, h_9))) else (if x2 = 6 then (bd (f_X2_isMixed (q + 17) x1 h_4) (fun v_13 h_12 => if v_13 = 0 then (some (0, h_12)) else (some (1, h_12)))) else (if x2 = 7 then (bd (f_X2_portersOf (q + 17) x1 h_4) (fun v_16 h_15 => some (v_16, h_15))) else (some ((-1000001), h_4)))))) else (bd (f_X2_loadOf (q + 17) x1 x2 h_4) (fun v_19 h_18 => some (v_19, h_18))))))
set_option maxRecDepth 20000 in
set_option maxHeartbeats 4000000 in
theorem ct_X7_boat (l : Launch) (g : GC) {q : Nat} (hq : (gL g)[q]? = some (.inl 7)) (x1 : Int32) (x2 : Int32) : Ct l yX7_boat cX7_boat 3 (some .int) 5 [.ref (gad g q), .int x1, .int x2] g mkI (fun h => f_X7_boat q x1 x2 h) := by
  refine Ct.of (by decide +kernel) (Nat.le_of_ble_eq_true rfl) (fun z A h _ F => ?_)
  show Snd z 3 g A (QF z g A mkI) 0 [(0, .ref (gad g q)), (1, .int x1), (2, .int x2)] [] h (f_X7_boat q x1 x2 h)
  unfold f_X7_boat
  refine s_aload_n F dX7_boat_0 rfl 0 rfl ?_
  have hw_1 := wf_ref F.2.2.2.2.2.2.1 hq 3 17 (.inl 2) rfl
  refine s_getr F ciX7 3 17 (.inl 2) hq (by decide) rfl rfl m242 dX7_boat_1 ?_
  refine s_iload_n F dX7_boat_4 rfl 1 rfl ?_
  refine s_callVi (f := fun hh => f_X2_isBoat (q + 17) x1 hh) (As := [.int x1]) F yv_X2_isBoat (ct_X2_isBoat z.2.1 g hw_1 x1) (by decide) m562 hw_1 rfl rfl rfl (Nat.le_of_ble_eq_true rfl) dX7_boat_5 (fun v_3 h_2 e_v_3 => ?_)
  refine s_if_ne F 14 dX7_boat_8 (by decide) (fun _ => ?_) (fun _ => ?_)
  · refine s_iload_n F dX7_boat_14 rfl 2 rfl ?_
    refine s_callSi (f := fun hh => f_X7_isTrade x2 hh) (As := [.int x2]) F ys_X7_isTrade (ct_X7_isTrade z.2.1 g x2) (by decide) m638 rfl rfl (Nat.le_of_ble_eq_true rfl) dX7_boat_15 (fun v_5 h_4 e_v_5 => ?_)
    refine s_if_eq F 31 dX7_boat_18 (by decide) (fun _ => ?_) (fun _ => ?_)
    · refine s_iload_n F dX7_boat_31 rfl 2 rfl ?_
      refine s_case 4 ?_ (fun n4 => ?_)
      · refine s_tabIn F (off := 32) 64 dX7_boat_32 (by decide) (by decide) rfl (by decide) ?_
        refine s_aload_n F dX7_boat_64 rfl 0 rfl ?_
        have hw_6 := wf_ref F.2.2.2.2.2.2.1 hq 3 17 (.inl 2) rfl
        refine s_getr F ciX7 3 17 (.inl 2) hq (by decide) rfl rfl m242 dX7_boat_65 ?_
        have hw_7 := wf_ref F.2.2.2.2.2.2.1 hw_6 12 6 (.inr (0, 6)) rfl
        refine s_getrN F ciX2 12 6 (.inr (0, 6)) hw_6 (by decide) rfl rfl (List.mem_of_getElem? (i := 7) rfl) dX7_boat_68 ?_
        refine s_iload_n F dX7_boat_71 rfl 1 rfl ?_
        refine s_iald F hw_7 dX7_boat_72 ?_
        exact s_iret F dX7_boat_73
      refine s_case 5 ?_ (fun n5 => ?_)
      · refine s_tabIn F (off := 42) 74 dX7_boat_32 (by decide) (by decide) rfl (by decide) ?_
        refine s_aload_n F dX7_boat_74 rfl 0 rfl ?_
        have hw_8 := wf_ref F.2.2.2.2.2.2.1 hq 3 17 (.inl 2) rfl
        refine s_getr F ciX7 3 17 (.inl 2) hq (by decide) rfl rfl m242 dX7_boat_75 ?_
        refine s_getiN F ciX2 6 hw_8 (by decide) rfl rfl (List.mem_of_getElem? (i := 8) rfl) dX7_boat_78 ?_
        refine s_iload_n F dX7_boat_81 rfl 1 rfl ?_
        refine s_callSi (f := fun hh => f_X7_bitOf (h_4 (q + 17) 6) x1 hh) (As := [.int (h_4 (q + 17) 6), .int x1]) F ys_X7_bitOf (ct_X7_bitOf z.2.1 g (h_4 (q + 17) 6) x1) (by decide) m552 rfl rfl (Nat.le_of_ble_eq_true rfl) dX7_boat_82 (fun v_10 h_9 e_v_10 => ?_)
        exact s_iret F dX7_boat_85
      refine s_case 6 ?_ (fun n6 => ?_)
      · refine s_tabIn F (off := 54) 86 dX7_boat_32 (by decide) (by decide) rfl (by decide) ?_
        refine s_aload_n F dX7_boat_86 rfl 0 rfl ?_
        have hw_11 := wf_ref F.2.2.2.2.2.2.1 hq 3 17 (.inl 2) rfl
        refine s_getr F ciX7 3 17 (.inl 2) hq (by decide) rfl rfl m242 dX7_boat_87 ?_
        refine s_iload_n F dX7_boat_90 rfl 1 rfl ?_
        refine s_callVi (f := fun hh => f_X2_isMixed (q + 17) x1 hh) (As := [.int x1]) F yv_X2_isMixed (ct_X2_isMixed z.2.1 g hw_11 x1) (by decide) m642 hw_11 rfl rfl rfl (Nat.le_of_ble_eq_true rfl) dX7_boat_91 (fun v_13 h_12 e_v_13 => ?_)
        refine s_if_eq F 101 dX7_boat_94 (by decide) (fun _ => ?_) (fun _ => ?_)
        · refine s_iconst F (v := 0) dX7_boat_101 (by decide) ?_
          exact s_iret F dX7_boat_102
        · refine s_iconst F (v := 1) dX7_boat_97 (by decide) ?_
          refine s_goto F 102 dX7_boat_98 (by decide) ?_
          exact s_iret F dX7_boat_102
      refine s_case 7 ?_ (fun n7 => ?_)
      · refine s_tabIn F (off := 71) 103 dX7_boat_32 (by decide) (by decide) rfl (by decide) ?_
        refine s_aload_n F dX7_boat_103 rfl 0 rfl ?_
        have hw_14 := wf_ref F.2.2.2.2.2.2.1 hq 3 17 (.inl 2) rfl
        refine s_getr F ciX7 3 17 (.inl 2) hq (by decide) rfl rfl m242 dX7_boat_104 ?_
        refine s_iload_n F dX7_boat_107 rfl 1 rfl ?_
        refine s_callVi (f := fun hh => f_X2_portersOf (q + 17) x1 hh) (As := [.int x1]) F yv_X2_portersOf (ct_X2_portersOf z.2.1 g hw_14 x1) (by decide) m681 hw_14 rfl rfl rfl (Nat.le_of_ble_eq_true rfl) dX7_boat_108 (fun v_16 h_15 e_v_16 => ?_)
        exact s_iret F dX7_boat_111
      refine s_tabOut F 112 dX7_boat_32 (by decide) (s_out 4 7 4 (by decide) (by decide) (by decide) (fun j hj => ?_)) ?_
      · rcases (show j = 0 ∨ j = 1 ∨ j = 2 ∨ j = 3 by omega) with rfl | rfl | rfl | rfl
        · exact n4
        · exact n5
        · exact n6
        · exact n7
      refine s_ldc F (v := (-1000001)) dX7_boat_112 m280 ?_
      exact s_iret F dX7_boat_114
    · refine s_aload_n F dX7_boat_21 rfl 0 rfl ?_
      have hw_17 := wf_ref F.2.2.2.2.2.2.1 hq 3 17 (.inl 2) rfl
      refine s_getr F ciX7 3 17 (.inl 2) hq (by decide) rfl rfl m242 dX7_boat_22 ?_
      refine s_iload_n F dX7_boat_25 rfl 1 rfl ?_
      refine s_iload_n F dX7_boat_26 rfl 2 rfl ?_
      refine s_callVi (f := fun hh => f_X2_loadOf (q + 17) x1 x2 hh) (As := [.int x1, .int x2]) F yv_X2_loadOf (ct_X2_loadOf z.2.1 g hw_17 x1 x2) (by decide) m641 hw_17 rfl rfl rfl (Nat.le_of_ble_eq_true rfl) dX7_boat_27 (fun v_19 h_18 e_v_19 => ?_)
      exact s_iret F dX7_boat_30
  · refine s_ldc F (v := (-1000001)) dX7_boat_11 m280 ?_
    exact s_iret F dX7_boat_13
theorem dX7_may_0 : decode cX7_may 0 = .ok (.aload_n 0, 1) := by decide +kernel
theorem dX7_may_1 : decode cX7_may 1 = .ok (.getfield 33, 3) := by decide +kernel
theorem dX7_may_4 : decode cX7_may 4 = .ok (.iload_n 1, 1) := by decide +kernel
theorem dX7_may_5 : decode cX7_may 5 = .ok (.invokevirtual 165, 3) := by decide +kernel
theorem dX7_may_8 : decode cX7_may 8 = .ok (.ifCond .eq 10, 3) := by decide +kernel
theorem dX7_may_11 : decode cX7_may 11 = .ok (.iload_n 2, 1) := by decide +kernel
theorem dX7_may_12 : decode cX7_may 12 = .ok (.invokestatic 231, 3) := by decide +kernel
theorem dX7_may_15 : decode cX7_may 15 = .ok (.ifCond .ne 6, 3) := by decide +kernel
theorem dX7_may_18 : decode cX7_may 18 = .ok (.ldc 68, 2) := by decide +kernel
theorem dX7_may_20 : decode cX7_may 20 = .ok (.ireturn, 1) := by decide +kernel
theorem dX7_may_21 : decode cX7_may 21 = .ok (.iconst 0, 1) := by decide +kernel
theorem dX7_may_22 : decode cX7_may 22 = .ok (.istore_n 3, 1) := by decide +kernel
theorem dX7_may_23 : decode cX7_may 23 = .ok (.iconst 0, 1) := by decide +kernel
theorem dX7_may_24 : decode cX7_may 24 = .ok (.istore 4, 2) := by decide +kernel
theorem dX7_may_26 : decode cX7_may 26 = .ok (.iload 4, 2) := by decide +kernel
theorem dX7_may_28 : decode cX7_may 28 = .ok (.aload_n 0, 1) := by decide +kernel
theorem dX7_may_29 : decode cX7_may 29 = .ok (.getfield 33, 3) := by decide +kernel
theorem dX7_may_32 : decode cX7_may 32 = .ok (.getfield 139, 3) := by decide +kernel
theorem dX7_may_35 : decode cX7_may 35 = .ok (.if_icmp .ge 35, 3) := by decide +kernel
theorem dX7_may_38 : decode cX7_may 38 = .ok (.iload_n 3, 1) := by decide +kernel
theorem dX7_may_39 : decode cX7_may 39 = .ok (.iload 4, 2) := by decide +kernel
theorem dX7_may_41 : decode cX7_may 41 = .ok (.aload_n 0, 1) := by decide +kernel
theorem dX7_may_42 : decode cX7_may 42 = .ok (.getfield 33, 3) := by decide +kernel
theorem dX7_may_45 : decode cX7_may 45 = .ok (.iload_n 1, 1) := by decide +kernel
theorem dX7_may_46 : decode cX7_may 46 = .ok (.iload 4, 2) := by decide +kernel
theorem dX7_may_48 : decode cX7_may 48 = .ok (.iload_n 2, 1) := by decide +kernel
theorem dX7_may_49 : decode cX7_may 49 = .ok (.invokevirtual 174, 3) := by decide +kernel
theorem dX7_may_52 : decode cX7_may 52 = .ok (.ifCond .eq 7, 3) := by decide +kernel
theorem dX7_may_55 : decode cX7_may 55 = .ok (.iconst 1, 1) := by decide +kernel
theorem dX7_may_56 : decode cX7_may 56 = .ok (.goto 4, 3) := by decide +kernel
theorem dX7_may_59 : decode cX7_may 59 = .ok (.iconst 0, 1) := by decide +kernel
theorem dX7_may_60 : decode cX7_may 60 = .ok (.invokestatic 162, 3) := by decide +kernel
theorem dX7_may_63 : decode cX7_may 63 = .ok (.istore_n 3, 1) := by decide +kernel
theorem dX7_may_64 : decode cX7_may 64 = .ok (.iinc 4 1, 3) := by decide +kernel
theorem dX7_may_67 : decode cX7_may 67 = .ok (.goto (-41), 3) := by decide +kernel
theorem dX7_may_70 : decode cX7_may 70 = .ok (.iload_n 3, 1) := by decide +kernel
theorem dX7_may_71 : decode cX7_may 71 = .ok (.ireturn, 1) := by decide +kernel
theorem yv_X7_may : YV yX7_may cX7_may 5 (some .int) 2 := ⟨m689, m690, m1, m691, ⟨by decide +kernel, by decide +kernel, by decide +kernel⟩, by decide⟩
noncomputable def f_X7_may_26 (q : Nat) : Nat → Int32 → Int32 → Int32 → Int32 → AH → Option (Int32 × AH)
  | 0, _, _, _, _, _ => none
  | n + 1, x1, x2, x3, x4, h => if (h (q + 17) 1) ≤ x4 then (some (x3, h)) else (bd (f_X2_letsBy (q + 17) x1 x4 x2 h) (fun v_4 h_3 => if v_4 = 0 then (bd (f_X7_withBit x3 x4 0 h_3) (fun v_6 h_5 => lt (x4 + 1) (fun v_7 => (f_X7_may_26 q n) x1 x2 v_6 v_7 h_5))) else (bd (f_X7_withBit x3 x4 1 h_3) (fun v_9 h_8 => lt (x4 + 1) (fun v_10 => (f_X7_may_26 q n) x1 x2 v_9 v_10 h_8)))))
set_option maxRecDepth 20000 in
set_option maxHeartbeats 4000000 in
theorem t_X7_may_26 {z : MC} {g : GC} {A : Nat → Prop} (F : Fx z cX7_may 5 RX7 (some .int) 6 g A) {q : Nat} (hq : (gL g)[q]? = some (.inl 7)) : ∀ (n : Nat) (x1 : Int32) (x2 : Int32) (x3 : Int32) (x4 : Int32) (h : AH), Snd z 5 g A (QF z g A mkI) 26 [(0, .ref (gad g q)), (1, .int x1), (2, .int x2), (3, .int x3), (4, .int x4)] [] h (f_X7_may_26 q n x1 x2 x3 x4 h) := by
  intro n
  induction n with
  | zero => intros; exact s_none
  | succ n ih =>
    intro x1 x2 x3 x4 h
    unfold f_X7_may_26
    refine s_iload F dX7_may_26 4 rfl ?_
    refine s_aload_n F dX7_may_28 rfl 0 rfl ?_
    have hw_1 := wf_ref F.2.2.2.2.2.2.1 hq 3 17 (.inl 2) rfl
    refine s_getr F ciX7 3 17 (.inl 2) hq (by decide) rfl rfl m242 dX7_may_29 ?_
    refine s_getiN F ciX2 1 hw_1 (by decide) rfl rfl (List.mem_of_getElem? (i := 0) rfl) dX7_may_32 ?_
    refine s_icmp_ge F 70 dX7_may_35 (by decide) (fun _ => ?_) (fun _ => ?_)
    · refine s_iload_n F dX7_may_70 rfl 3 rfl ?_
      exact s_iret F dX7_may_71
    · refine s_iload_n F dX7_may_38 rfl 3 rfl ?_
      refine s_iload F dX7_may_39 4 rfl ?_
      refine s_aload_n F dX7_may_41 rfl 0 rfl ?_
      have hw_2 := wf_ref F.2.2.2.2.2.2.1 hq 3 17 (.inl 2) rfl
      refine s_getr F ciX7 3 17 (.inl 2) hq (by decide) rfl rfl m242 dX7_may_42 ?_
      refine s_iload_n F dX7_may_45 rfl 1 rfl ?_
      refine s_iload F dX7_may_46 4 rfl ?_
      refine s_iload_n F dX7_may_48 rfl 2 rfl ?_
      refine s_callVi (f := fun hh => f_X2_letsBy (q + 17) x1 x4 x2 hh) (As := [.int x1, .int x4, .int x2]) F yv_X2_letsBy (ct_X2_letsBy z.2.1 g hw_2 x1 x4 x2) (by decide) m571 hw_2 rfl rfl rfl (Nat.le_of_ble_eq_true rfl) dX7_may_49 (fun v_4 h_3 e_v_4 => ?_)
      refine s_if_eq F 59 dX7_may_52 (by decide) (fun _ => ?_) (fun _ => ?_)
      · refine s_iconst F (v := 0) dX7_may_59 (by decide) ?_
        refine s_callSi (f := fun hh => f_X7_withBit x3 x4 0 hh) (As := [.int x3, .int x4, .int 0]) F ys_X7_withBit (ct_X7_withBit z.2.1 g x3 x4 0) (by decide) m555 rfl rfl (Nat.le_of_ble_eq_true rfl) dX7_may_60 (fun v_6 h_5 e_v_6 => ?_)
        refine s_istore_n F (lv' := [(3, .int v_6), (0, .ref (gad g q)), (1, .int x1), (2, .int x2), (4, .int x4)]) dX7_may_63 rfl (by decide) rfl ?_
        refine s_iincv F dX7_may_64 4 rfl (by decide) (c := 1) (by decide) (fun v_7 => ?_)
        refine s_lv (lv' := [(4, .int v_7), (3, .int v_6), (0, .ref (gad g q)), (1, .int x1), (2, .int x2)]) rfl ?_
        refine s_goto F 26 dX7_may_67 (by decide) ?_
        exact s_sub [2, 3, 4, 1, 0] rfl (ih x1 x2 v_6 v_7 h_5)
      · refine s_iconst F (v := 1) dX7_may_55 (by decide) ?_
        refine s_goto F 60 dX7_may_56 (by decide) ?_
        refine s_callSi (f := fun hh => f_X7_withBit x3 x4 1 hh) (As := [.int x3, .int x4, .int 1]) F ys_X7_withBit (ct_X7_withBit z.2.1 g x3 x4 1) (by decide) m555 rfl rfl (Nat.le_of_ble_eq_true rfl) dX7_may_60 (fun v_9 h_8 e_v_9 => ?_)
        refine s_istore_n F (lv' := [(3, .int v_9), (0, .ref (gad g q)), (1, .int x1), (2, .int x2), (4, .int x4)]) dX7_may_63 rfl (by decide) rfl ?_
        refine s_iincv F dX7_may_64 4 rfl (by decide) (c := 1) (by decide) (fun v_10 => ?_)
        refine s_lv (lv' := [(4, .int v_10), (3, .int v_9), (0, .ref (gad g q)), (1, .int x1), (2, .int x2)]) rfl ?_
        refine s_goto F 26 dX7_may_67 (by decide) ?_
        exact s_sub [2, 3, 4, 1, 0] rfl (ih x1 x2 v_9 v_10 h_8)
noncomputable def f_X7_may (q : Nat) (x1 : Int32) (x2 : Int32) (h : AH) : Option (Int32 × AH) := bd (f_X2_isBoat (q + 17) x1 h) (fun v_3 h_2 => if v_3 = 0 then (some ((-1000001), h_2)) else (bd (f_X7_isHour x2 h_2) (fun v_5 h_4 => if v_5 = 0 then (some ((-1000001), h_4)) else (f_X7_may_26 q fu x1 x2 0 0 h_4))))
set_option maxRecDepth 20000 in
set_option maxHeartbeats 4000000 in
theorem ct_X7_may (l : Launch) (g : GC) {q : Nat} (hq : (gL g)[q]? = some (.inl 7)) (x1 : Int32) (x2 : Int32) : Ct l yX7_may cX7_may 5 (some .int) 6 [.ref (gad g q), .int x1, .int x2] g mkI (fun h => f_X7_may q x1 x2 h) := by
  refine Ct.of (by decide +kernel) (Nat.le_of_ble_eq_true rfl) (fun z A h _ F => ?_)
  show Snd z 5 g A (QF z g A mkI) 0 [(0, .ref (gad g q)), (1, .int x1), (2, .int x2)] [] h (f_X7_may q x1 x2 h)
  unfold f_X7_may
  refine s_aload_n F dX7_may_0 rfl 0 rfl ?_
  have hw_1 := wf_ref F.2.2.2.2.2.2.1 hq 3 17 (.inl 2) rfl
  refine s_getr F ciX7 3 17 (.inl 2) hq (by decide) rfl rfl m242 dX7_may_1 ?_
  refine s_iload_n F dX7_may_4 rfl 1 rfl ?_
  refine s_callVi (f := fun hh => f_X2_isBoat (q + 17) x1 hh) (As := [.int x1]) F yv_X2_isBoat (ct_X2_isBoat z.2.1 g hw_1 x1) (by decide) m562 hw_1 rfl rfl rfl (Nat.le_of_ble_eq_true rfl) dX7_may_5 (fun v_3 h_2 e_v_3 => ?_)
  refine s_if_eq F 18 dX7_may_8 (by decide) (fun _ => ?_) (fun _ => ?_)
  · refine s_ldc F (v := (-1000001)) dX7_may_18 m280 ?_
    exact s_iret F dX7_may_20
  · refine s_iload_n F dX7_may_11 rfl 2 rfl ?_
    refine s_callSi (f := fun hh => f_X7_isHour x2 hh) (As := [.int x2]) F ys_X7_isHour (ct_X7_isHour z.2.1 g x2) (by decide) m692 rfl rfl (Nat.le_of_ble_eq_true rfl) dX7_may_12 (fun v_5 h_4 e_v_5 => ?_)
    refine s_if_ne F 21 dX7_may_15 (by decide) (fun _ => ?_) (fun _ => ?_)
    · refine s_iconst F (v := 0) dX7_may_21 (by decide) ?_
      refine s_istore_n F (lv' := [(3, .int 0), (0, .ref (gad g q)), (1, .int x1), (2, .int x2)]) dX7_may_22 rfl (by decide) rfl ?_
      refine s_iconst F (v := 0) dX7_may_23 (by decide) ?_
      refine s_istore F (lv' := [(4, .int 0), (3, .int 0), (0, .ref (gad g q)), (1, .int x1), (2, .int x2)]) dX7_may_24 (by decide) rfl ?_
      exact s_sub [2, 3, 4, 1, 0] rfl (t_X7_may_26 F hq fu x1 x2 0 0 h_4)
    · refine s_ldc F (v := (-1000001)) dX7_may_18 m280 ?_
      exact s_iret F dX7_may_20
theorem dX7_most_0 : decode cX7_most 0 = .ok (.aload_n 0, 1) := by decide +kernel
theorem dX7_most_1 : decode cX7_most 1 = .ok (.getfield 33, 3) := by decide +kernel
theorem dX7_most_4 : decode cX7_most 4 = .ok (.getfield 205, 3) := by decide +kernel
theorem dX7_most_7 : decode cX7_most 7 = .ok (.ifCond .ne 6, 3) := by decide +kernel
theorem dX7_most_10 : decode cX7_most 10 = .ok (.ldc 183, 2) := by decide +kernel
theorem dX7_most_12 : decode cX7_most 12 = .ok (.ireturn, 1) := by decide +kernel
theorem dX7_most_13 : decode cX7_most 13 = .ok (.iload_n 1, 1) := by decide +kernel
theorem dX7_most_14 : decode cX7_most 14 = .ok (.iload_n 2, 1) := by decide +kernel
theorem dX7_most_15 : decode cX7_most 15 = .ok (.invokestatic 234, 3) := by decide +kernel
theorem dX7_most_18 : decode cX7_most 18 = .ok (.ifCond .eq 19, 3) := by decide +kernel
theorem dX7_most_21 : decode cX7_most 21 = .ok (.iload_n 3, 1) := by decide +kernel
theorem dX7_most_22 : decode cX7_most 22 = .ok (.iconst (-1), 1) := by decide +kernel
theorem dX7_most_23 : decode cX7_most 23 = .ok (.if_icmp .lt 14, 3) := by decide +kernel
theorem dX7_most_26 : decode cX7_most 26 = .ok (.iload_n 3, 1) := by decide +kernel
theorem dX7_most_27 : decode cX7_most 27 = .ok (.aload_n 0, 1) := by decide +kernel
theorem dX7_most_28 : decode cX7_most 28 = .ok (.getfield 33, 3) := by decide +kernel
theorem dX7_most_31 : decode cX7_most 31 = .ok (.getfield 199, 3) := by decide +kernel
theorem dX7_most_34 : decode cX7_most 34 = .ok (.if_icmp .lt 6, 3) := by decide +kernel
theorem dX7_most_37 : decode cX7_most 37 = .ok (.ldc 68, 2) := by decide +kernel
theorem dX7_most_39 : decode cX7_most 39 = .ok (.ireturn, 1) := by decide +kernel
theorem dX7_most_40 : decode cX7_most 40 = .ok (.iload_n 3, 1) := by decide +kernel
theorem dX7_most_41 : decode cX7_most 41 = .ok (.ifCond .ge 19, 3) := by decide +kernel
theorem dX7_most_44 : decode cX7_most 44 = .ok (.aload_n 0, 1) := by decide +kernel
theorem dX7_most_45 : decode cX7_most 45 = .ok (.getfield 53, 3) := by decide +kernel
theorem dX7_most_48 : decode cX7_most 48 = .ok (.aload_n 0, 1) := by decide +kernel
theorem dX7_most_49 : decode cX7_most 49 = .ok (.getfield 33, 3) := by decide +kernel
theorem dX7_most_52 : decode cX7_most 52 = .ok (.iload_n 1, 1) := by decide +kernel
theorem dX7_most_53 : decode cX7_most 53 = .ok (.iload_n 2, 1) := by decide +kernel
theorem dX7_most_54 : decode cX7_most 54 = .ok (.invokevirtual 238, 3) := by decide +kernel
theorem dX7_most_57 : decode cX7_most 57 = .ok (.goto 17, 3) := by decide +kernel
theorem dX7_most_60 : decode cX7_most 60 = .ok (.aload_n 0, 1) := by decide +kernel
theorem dX7_most_61 : decode cX7_most 61 = .ok (.getfield 53, 3) := by decide +kernel
theorem dX7_most_64 : decode cX7_most 64 = .ok (.aload_n 0, 1) := by decide +kernel
theorem dX7_most_65 : decode cX7_most 65 = .ok (.getfield 33, 3) := by decide +kernel
theorem dX7_most_68 : decode cX7_most 68 = .ok (.iload_n 1, 1) := by decide +kernel
theorem dX7_most_69 : decode cX7_most 69 = .ok (.iload_n 2, 1) := by decide +kernel
theorem dX7_most_70 : decode cX7_most 70 = .ok (.iload_n 3, 1) := by decide +kernel
theorem dX7_most_71 : decode cX7_most 71 = .ok (.invokevirtual 242, 3) := by decide +kernel
theorem dX7_most_74 : decode cX7_most 74 = .ok (.ireturn, 1) := by decide +kernel
theorem yv_X7_most : YV yX7_most cX7_most 4 (some .int) 3 := ⟨m696, m697, m1, m698, ⟨by decide +kernel, by decide +kernel, by decide +kernel⟩, by decide⟩
noncomputable def f_X7_most (q : Nat) (x1 : Int32) (x2 : Int32) (x3 : Int32) (h : AH) : Option (Int32 × AH) := if (h (q + 17) 0) = 0 then (some ((-1000002), h)) else (bd (f_X7_areHours x1 x2 h) (fun v_3 h_2 => if v_3 = 0 then (some ((-1000001), h_2)) else (if x3 < (-1) then (some ((-1000001), h_2)) else (if x3 < (h_2 (q + 17) 2) then (if (0 : Int32) ≤ x3 then (bd (f_X3_whenGoes (q + 49) (q + 17) x1 x2 x3 h_2) (fun v_8 h_7 => some (v_8, h_7))) else (bd (f_X3_greatest (q + 49) (q + 17) x1 x2 h_2) (fun v_12 h_11 => some (v_12, h_11)))) else (some ((-1000001), h_2))))))
set_option maxRecDepth 20000 in
set_option maxHeartbeats 4000000 in
theorem ct_X7_most (l : Launch) (g : GC) {q : Nat} (hq : (gL g)[q]? = some (.inl 7)) (x1 : Int32) (x2 : Int32) (x3 : Int32) : Ct l yX7_most cX7_most 4 (some .int) 17 [.ref (gad g q), .int x1, .int x2, .int x3] g mkI (fun h => f_X7_most q x1 x2 x3 h) := by
  refine Ct.of (by decide +kernel) (Nat.le_of_ble_eq_true rfl) (fun z A h _ F => ?_)
  show Snd z 4 g A (QF z g A mkI) 0 [(0, .ref (gad g q)), (1, .int x1), (2, .int x2), (3, .int x3)] [] h (f_X7_most q x1 x2 x3 h)
  unfold f_X7_most
  refine s_aload_n F dX7_most_0 rfl 0 rfl ?_
  have hw_1 := wf_ref F.2.2.2.2.2.2.1 hq 3 17 (.inl 2) rfl
  refine s_getr F ciX7 3 17 (.inl 2) hq (by decide) rfl rfl m242 dX7_most_1 ?_
  refine s_getiN F ciX2 0 hw_1 (by decide) rfl rfl (List.mem_of_getElem? (i := 4) rfl) dX7_most_4 ?_
  refine s_if_ne F 13 dX7_most_7 (by decide) (fun _ => ?_) (fun _ => ?_)
  · refine s_iload_n F dX7_most_13 rfl 1 rfl ?_
    refine s_iload_n F dX7_most_14 rfl 2 rfl ?_
    refine s_callSi (f := fun hh => f_X7_areHours x1 x2 hh) (As := [.int x1, .int x2]) F ys_X7_areHours (ct_X7_areHours z.2.1 g x1 x2) (by decide) m699 rfl rfl (Nat.le_of_ble_eq_true rfl) dX7_most_15 (fun v_3 h_2 e_v_3 => ?_)
    refine s_if_eq F 37 dX7_most_18 (by decide) (fun _ => ?_) (fun _ => ?_)
    · refine s_ldc F (v := (-1000001)) dX7_most_37 m280 ?_
      exact s_iret F dX7_most_39
    · refine s_iload_n F dX7_most_21 rfl 3 rfl ?_
      refine s_iconst F (v := (-1)) dX7_most_22 (by decide) ?_
      refine s_icmp_lt F 37 dX7_most_23 (by decide) (fun _ => ?_) (fun _ => ?_)
      · refine s_ldc F (v := (-1000001)) dX7_most_37 m280 ?_
        exact s_iret F dX7_most_39
      · refine s_iload_n F dX7_most_26 rfl 3 rfl ?_
        refine s_aload_n F dX7_most_27 rfl 0 rfl ?_
        have hw_4 := wf_ref F.2.2.2.2.2.2.1 hq 3 17 (.inl 2) rfl
        refine s_getr F ciX7 3 17 (.inl 2) hq (by decide) rfl rfl m242 dX7_most_28 ?_
        refine s_getiN F ciX2 2 hw_4 (by decide) rfl rfl (List.mem_of_getElem? (i := 3) rfl) dX7_most_31 ?_
        refine s_icmp_lt F 40 dX7_most_34 (by decide) (fun _ => ?_) (fun _ => ?_)
        · refine s_iload_n F dX7_most_40 rfl 3 rfl ?_
          refine s_if_ge F 60 dX7_most_41 (by decide) (fun _ => ?_) (fun _ => ?_)
          · refine s_aload_n F dX7_most_60 rfl 0 rfl ?_
            have hw_5 := wf_ref F.2.2.2.2.2.2.1 hq 7 49 (.inl 3) rfl
            refine s_getr F ciX7 7 49 (.inl 3) hq (by decide) rfl rfl m246 dX7_most_61 ?_
            refine s_aload_n F dX7_most_64 rfl 0 rfl ?_
            have hw_6 := wf_ref F.2.2.2.2.2.2.1 hq 3 17 (.inl 2) rfl
            refine s_getr F ciX7 3 17 (.inl 2) hq (by decide) rfl rfl m242 dX7_most_65 ?_
            refine s_iload_n F dX7_most_68 rfl 1 rfl ?_
            refine s_iload_n F dX7_most_69 rfl 2 rfl ?_
            refine s_iload_n F dX7_most_70 rfl 3 rfl ?_
            refine s_callVi (f := fun hh => f_X3_whenGoes (q + 49) (q + 17) x1 x2 x3 hh) (As := [.ref (gad g (q + 17)), .int x1, .int x2, .int x3]) F yv_X3_whenGoes (ct_X3_whenGoes z.2.1 g hw_5 hw_6 x1 x2 x3) (by decide) m743 hw_5 rfl rfl rfl (Nat.le_of_ble_eq_true rfl) dX7_most_71 (fun v_8 h_7 e_v_8 => ?_)
            exact s_iret F dX7_most_74
          · refine s_aload_n F dX7_most_44 rfl 0 rfl ?_
            have hw_9 := wf_ref F.2.2.2.2.2.2.1 hq 7 49 (.inl 3) rfl
            refine s_getr F ciX7 7 49 (.inl 3) hq (by decide) rfl rfl m246 dX7_most_45 ?_
            refine s_aload_n F dX7_most_48 rfl 0 rfl ?_
            have hw_10 := wf_ref F.2.2.2.2.2.2.1 hq 3 17 (.inl 2) rfl
            refine s_getr F ciX7 3 17 (.inl 2) hq (by decide) rfl rfl m242 dX7_most_49 ?_
            refine s_iload_n F dX7_most_52 rfl 1 rfl ?_
            refine s_iload_n F dX7_most_53 rfl 2 rfl ?_
            refine s_callVi (f := fun hh => f_X3_greatest (q + 49) (q + 17) x1 x2 hh) (As := [.ref (gad g (q + 17)), .int x1, .int x2]) F yv_X3_greatest (ct_X3_greatest z.2.1 g hw_9 hw_10 x1 x2) (by decide) m702 hw_9 rfl rfl rfl (Nat.le_of_ble_eq_true rfl) dX7_most_54 (fun v_12 h_11 e_v_12 => ?_)
            refine s_goto F 74 dX7_most_57 (by decide) ?_
            exact s_iret F dX7_most_74
        · refine s_ldc F (v := (-1000001)) dX7_most_37 m280 ?_
          exact s_iret F dX7_most_39
  · refine s_ldc F (v := (-1000002)) dX7_most_10 m613 ?_
    exact s_iret F dX7_most_12
theorem dX7_anew_0 : decode cX7_anew 0 = .ok (.aload_n 0, 1) := by decide +kernel
theorem dX7_anew_1 : decode cX7_anew 1 = .ok (.getfield 33, 3) := by decide +kernel
theorem dX7_anew_4 : decode cX7_anew 4 = .ok (.getfield 205, 3) := by decide +kernel
theorem dX7_anew_7 : decode cX7_anew 7 = .ok (.ifCond .ne 6, 3) := by decide +kernel
theorem dX7_anew_10 : decode cX7_anew 10 = .ok (.ldc 183, 2) := by decide +kernel
theorem dX7_anew_12 : decode cX7_anew 12 = .ok (.ireturn, 1) := by decide +kernel
theorem dX7_anew_13 : decode cX7_anew 13 = .ok (.iload_n 1, 1) := by decide +kernel
theorem dX7_anew_14 : decode cX7_anew 14 = .ok (.iload_n 2, 1) := by decide +kernel
theorem dX7_anew_15 : decode cX7_anew 15 = .ok (.invokestatic 234, 3) := by decide +kernel
theorem dX7_anew_18 : decode cX7_anew 18 = .ok (.ifCond .eq 19, 3) := by decide +kernel
theorem dX7_anew_21 : decode cX7_anew 21 = .ok (.iload_n 3, 1) := by decide +kernel
theorem dX7_anew_22 : decode cX7_anew 22 = .ok (.iconst (-1), 1) := by decide +kernel
theorem dX7_anew_23 : decode cX7_anew 23 = .ok (.if_icmp .lt 14, 3) := by decide +kernel
theorem dX7_anew_26 : decode cX7_anew 26 = .ok (.iload_n 3, 1) := by decide +kernel
theorem dX7_anew_27 : decode cX7_anew 27 = .ok (.aload_n 0, 1) := by decide +kernel
theorem dX7_anew_28 : decode cX7_anew 28 = .ok (.getfield 33, 3) := by decide +kernel
theorem dX7_anew_31 : decode cX7_anew 31 = .ok (.getfield 139, 3) := by decide +kernel
theorem dX7_anew_34 : decode cX7_anew 34 = .ok (.if_icmp .lt 6, 3) := by decide +kernel
theorem dX7_anew_37 : decode cX7_anew 37 = .ok (.ldc 68, 2) := by decide +kernel
theorem dX7_anew_39 : decode cX7_anew 39 = .ok (.ireturn, 1) := by decide +kernel
theorem dX7_anew_40 : decode cX7_anew 40 = .ok (.aload_n 0, 1) := by decide +kernel
theorem dX7_anew_41 : decode cX7_anew 41 = .ok (.getfield 53, 3) := by decide +kernel
theorem dX7_anew_44 : decode cX7_anew 44 = .ok (.aload_n 0, 1) := by decide +kernel
theorem dX7_anew_45 : decode cX7_anew 45 = .ok (.getfield 33, 3) := by decide +kernel
theorem dX7_anew_48 : decode cX7_anew 48 = .ok (.iload_n 1, 1) := by decide +kernel
theorem dX7_anew_49 : decode cX7_anew 49 = .ok (.iload_n 2, 1) := by decide +kernel
theorem dX7_anew_50 : decode cX7_anew 50 = .ok (.invokevirtual 246, 3) := by decide +kernel
theorem dX7_anew_53 : decode cX7_anew 53 = .ok (.istore 4, 2) := by decide +kernel
theorem dX7_anew_55 : decode cX7_anew 55 = .ok (.iload_n 3, 1) := by decide +kernel
theorem dX7_anew_56 : decode cX7_anew 56 = .ok (.ifCond .ge 8, 3) := by decide +kernel
theorem dX7_anew_59 : decode cX7_anew 59 = .ok (.iload 4, 2) := by decide +kernel
theorem dX7_anew_61 : decode cX7_anew 61 = .ok (.goto 11, 3) := by decide +kernel
theorem dX7_anew_64 : decode cX7_anew 64 = .ok (.aload_n 0, 1) := by decide +kernel
theorem dX7_anew_65 : decode cX7_anew 65 = .ok (.getfield 53, 3) := by decide +kernel
theorem dX7_anew_68 : decode cX7_anew 68 = .ok (.iload_n 3, 1) := by decide +kernel
theorem dX7_anew_69 : decode cX7_anew 69 = .ok (.invokevirtual 249, 3) := by decide +kernel
theorem dX7_anew_72 : decode cX7_anew 72 = .ok (.ireturn, 1) := by decide +kernel
theorem yv_X7_anew : YV yX7_anew cX7_anew 5 (some .int) 3 := ⟨m753, m754, m1, m755, ⟨by decide +kernel, by decide +kernel, by decide +kernel⟩, by decide⟩
noncomputable def f_X7_anew (q : Nat) (x1 : Int32) (x2 : Int32) (x3 : Int32) (h : AH) : Option (Int32 × AH) := if (h (q + 17) 0) = 0 then (some ((-1000002), h)) else (bd (f_X7_areHours x1 x2 h) (fun v_3 h_2 => if v_3 = 0 then (some ((-1000001), h_2)) else (if x3 < (-1) then (some ((-1000001), h_2)) else (if x3 < (h_2 (q + 17) 1) then (bd (f_X3_dealAnew (q + 49) (q + 17) x1 x2 h_2) (fun v_8 h_7 => if (0 : Int32) ≤ x3 then (bd (f_X3_dealtTo (q + 49) x3 h_7) (fun v_11 h_10 => some (v_11, h_10))) else (some (v_8, h_7)))) else (some ((-1000001), h_2))))))
set_option maxRecDepth 20000 in
set_option maxHeartbeats 4000000 in
theorem ct_X7_anew (l : Launch) (g : GC) {q : Nat} (hq : (gL g)[q]? = some (.inl 7)) (x1 : Int32) (x2 : Int32) (x3 : Int32) : Ct l yX7_anew cX7_anew 5 (some .int) 17 [.ref (gad g q), .int x1, .int x2, .int x3] g mkI (fun h => f_X7_anew q x1 x2 x3 h) := by
  refine Ct.of (by decide +kernel) (Nat.le_of_ble_eq_true rfl) (fun z A h _ F => ?_)
  show Snd z 5 g A (QF z g A mkI) 0 [(0, .ref (gad g q)), (1, .int x1), (2, .int x2), (3, .int x3)] [] h (f_X7_anew q x1 x2 x3 h)
  unfold f_X7_anew
  refine s_aload_n F dX7_anew_0 rfl 0 rfl ?_
  have hw_1 := wf_ref F.2.2.2.2.2.2.1 hq 3 17 (.inl 2) rfl
  refine s_getr F ciX7 3 17 (.inl 2) hq (by decide) rfl rfl m242 dX7_anew_1 ?_
  refine s_getiN F ciX2 0 hw_1 (by decide) rfl rfl (List.mem_of_getElem? (i := 4) rfl) dX7_anew_4 ?_
  refine s_if_ne F 13 dX7_anew_7 (by decide) (fun _ => ?_) (fun _ => ?_)
  · refine s_iload_n F dX7_anew_13 rfl 1 rfl ?_
    refine s_iload_n F dX7_anew_14 rfl 2 rfl ?_
    refine s_callSi (f := fun hh => f_X7_areHours x1 x2 hh) (As := [.int x1, .int x2]) F ys_X7_areHours (ct_X7_areHours z.2.1 g x1 x2) (by decide) m699 rfl rfl (Nat.le_of_ble_eq_true rfl) dX7_anew_15 (fun v_3 h_2 e_v_3 => ?_)
    refine s_if_eq F 37 dX7_anew_18 (by decide) (fun _ => ?_) (fun _ => ?_)
    · refine s_ldc F (v := (-1000001)) dX7_anew_37 m280 ?_
      exact s_iret F dX7_anew_39
    · refine s_iload_n F dX7_anew_21 rfl 3 rfl ?_
      refine s_iconst F (v := (-1)) dX7_anew_22 (by decide) ?_
      refine s_icmp_lt F 37 dX7_anew_23 (by decide) (fun _ => ?_) (fun _ => ?_)
      · refine s_ldc F (v := (-1000001)) dX7_anew_37 m280 ?_
        exact s_iret F dX7_anew_39
      · refine s_iload_n F dX7_anew_26 rfl 3 rfl ?_
        refine s_aload_n F dX7_anew_27 rfl 0 rfl ?_
        have hw_4 := wf_ref F.2.2.2.2.2.2.1 hq 3 17 (.inl 2) rfl
        refine s_getr F ciX7 3 17 (.inl 2) hq (by decide) rfl rfl m242 dX7_anew_28 ?_
        refine s_getiN F ciX2 1 hw_4 (by decide) rfl rfl (List.mem_of_getElem? (i := 0) rfl) dX7_anew_31 ?_
        refine s_icmp_lt F 40 dX7_anew_34 (by decide) (fun _ => ?_) (fun _ => ?_)
        · refine s_aload_n F dX7_anew_40 rfl 0 rfl ?_
          have hw_5 := wf_ref F.2.2.2.2.2.2.1 hq 7 49 (.inl 3) rfl
          refine s_getr F ciX7 7 49 (.inl 3) hq (by decide) rfl rfl m246 dX7_anew_41 ?_
          refine s_aload_n F dX7_anew_44 rfl 0 rfl ?_
          have hw_6 := wf_ref F.2.2.2.2.2.2.1 hq 3 17 (.inl 2) rfl
          refine s_getr F ciX7 3 17 (.inl 2) hq (by decide) rfl rfl m242 dX7_anew_45 ?_
          refine s_iload_n F dX7_anew_48 rfl 1 rfl ?_
          refine s_iload_n F dX7_anew_49 rfl 2 rfl ?_
          refine s_callVi (f := fun hh => f_X3_dealAnew (q + 49) (q + 17) x1 x2 hh) (As := [.ref (gad g (q + 17)), .int x1, .int x2]) F yv_X3_dealAnew (ct_X3_dealAnew z.2.1 g hw_5 hw_6 x1 x2) (by decide) m756 hw_5 rfl rfl rfl (Nat.le_of_ble_eq_true rfl) dX7_anew_50 (fun v_8 h_7 e_v_8 => ?_)
          refine s_istore F (lv' := [(4, .int v_8), (0, .ref (gad g q)), (1, .int x1), (2, .int x2), (3, .int x3)]) dX7_anew_53 (by decide) rfl ?_
          refine s_iload_n F dX7_anew_55 rfl 4 rfl ?_
          refine s_if_ge F 64 dX7_anew_56 (by decide) (fun _ => ?_) (fun _ => ?_)
          · refine s_aload_n F dX7_anew_64 rfl 1 rfl ?_
            have hw_9 := wf_ref F.2.2.2.2.2.2.1 hq 7 49 (.inl 3) rfl
            refine s_getr F ciX7 7 49 (.inl 3) hq (by decide) rfl rfl m246 dX7_anew_65 ?_
            refine s_iload_n F dX7_anew_68 rfl 4 rfl ?_
            refine s_callVi (f := fun hh => f_X3_dealtTo (q + 49) x3 hh) (As := [.int x3]) F yv_X3_dealtTo (ct_X3_dealtTo z.2.1 g hw_9 x3) (by decide) m776 hw_9 rfl rfl rfl (Nat.le_of_ble_eq_true rfl) dX7_anew_69 (fun v_11 h_10 e_v_11 => ?_)
            exact s_iret F dX7_anew_72
          · refine s_iload F dX7_anew_59 0 rfl ?_
            refine s_goto F 72 dX7_anew_61 (by decide) ?_
            exact s_iret F dX7_anew_72
        · refine s_ldc F (v := (-1000001)) dX7_anew_37 m280 ?_
          exact s_iret F dX7_anew_39
  · refine s_ldc F (v := (-1000002)) dX7_anew_10 m613 ?_
    exact s_iret F dX7_anew_12
theorem dX7_cut_0 : decode cX7_cut 0 = .ok (.aload_n 0, 1) := by decide +kernel
theorem dX7_cut_1 : decode cX7_cut 1 = .ok (.getfield 33, 3) := by decide +kernel
theorem dX7_cut_4 : decode cX7_cut 4 = .ok (.getfield 205, 3) := by decide +kernel
theorem dX7_cut_7 : decode cX7_cut 7 = .ok (.ifCond .ne 6, 3) := by decide +kernel
theorem dX7_cut_10 : decode cX7_cut 10 = .ok (.ldc 183, 2) := by decide +kernel
theorem dX7_cut_12 : decode cX7_cut 12 = .ok (.ireturn, 1) := by decide +kernel
theorem dX7_cut_13 : decode cX7_cut 13 = .ok (.iload_n 1, 1) := by decide +kernel
theorem dX7_cut_14 : decode cX7_cut 14 = .ok (.ifCond .lt 19, 3) := by decide +kernel
theorem dX7_cut_17 : decode cX7_cut 17 = .ok (.iload_n 1, 1) := by decide +kernel
theorem dX7_cut_18 : decode cX7_cut 18 = .ok (.bipush 30, 2) := by decide +kernel
theorem dX7_cut_20 : decode cX7_cut 20 = .ok (.if_icmp .gt 13, 3) := by decide +kernel
theorem dX7_cut_23 : decode cX7_cut 23 = .ok (.iload_n 2, 1) := by decide +kernel
theorem dX7_cut_24 : decode cX7_cut 24 = .ok (.ifCond .lt 9, 3) := by decide +kernel
theorem dX7_cut_27 : decode cX7_cut 27 = .ok (.iload_n 2, 1) := by decide +kernel
theorem dX7_cut_28 : decode cX7_cut 28 = .ok (.bipush 20, 2) := by decide +kernel
theorem dX7_cut_30 : decode cX7_cut 30 = .ok (.if_icmp .le 6, 3) := by decide +kernel
theorem dX7_cut_33 : decode cX7_cut 33 = .ok (.ldc 68, 2) := by decide +kernel
theorem dX7_cut_35 : decode cX7_cut 35 = .ok (.ireturn, 1) := by decide +kernel
theorem dX7_cut_36 : decode cX7_cut 36 = .ok (.aload_n 0, 1) := by decide +kernel
theorem dX7_cut_37 : decode cX7_cut 37 = .ok (.getfield 33, 3) := by decide +kernel
theorem dX7_cut_40 : decode cX7_cut 40 = .ok (.iload_n 1, 1) := by decide +kernel
theorem dX7_cut_41 : decode cX7_cut 41 = .ok (.iload_n 2, 1) := by decide +kernel
theorem dX7_cut_42 : decode cX7_cut 42 = .ok (.invokevirtual 252, 3) := by decide +kernel
theorem dX7_cut_45 : decode cX7_cut 45 = .ok (.ireturn, 1) := by decide +kernel
theorem yv_X7_cut : YV yX7_cut cX7_cut 3 (some .int) 2 := ⟨m781, m782, m1, m783, ⟨by decide +kernel, by decide +kernel, by decide +kernel⟩, by decide⟩
noncomputable def f_X7_cut (q : Nat) (x1 : Int32) (x2 : Int32) (h : AH) : Option (Int32 × AH) := if (h (q + 17) 0) = 0 then (some ((-1000002), h)) else (if x1 < 0 then (some ((-1000001), h)) else (if (30 : Int32) < x1 then (some ((-1000001), h)) else (if x2 < 0 then (some ((-1000001), h)) else (if x2 ≤ 20 then (bd (f_X2_tradesCutOff (q + 17) x1 x2 h) (fun v_4 h_3 => some (v_4, h_3))) else (some ((-1000001), h))))))
set_option maxRecDepth 20000 in
set_option maxHeartbeats 4000000 in
theorem ct_X7_cut (l : Launch) (g : GC) {q : Nat} (hq : (gL g)[q]? = some (.inl 7)) (x1 : Int32) (x2 : Int32) : Ct l yX7_cut cX7_cut 3 (some .int) 4 [.ref (gad g q), .int x1, .int x2] g mkI (fun h => f_X7_cut q x1 x2 h) := by
  refine Ct.of (by decide +kernel) (Nat.le_of_ble_eq_true rfl) (fun z A h _ F => ?_)
  show Snd z 3 g A (QF z g A mkI) 0 [(0, .ref (gad g q)), (1, .int x1), (2, .int x2)] [] h (f_X7_cut q x1 x2 h)
  unfold f_X7_cut
  refine s_aload_n F dX7_cut_0 rfl 0 rfl ?_
  have hw_1 := wf_ref F.2.2.2.2.2.2.1 hq 3 17 (.inl 2) rfl
  refine s_getr F ciX7 3 17 (.inl 2) hq (by decide) rfl rfl m242 dX7_cut_1 ?_
  refine s_getiN F ciX2 0 hw_1 (by decide) rfl rfl (List.mem_of_getElem? (i := 4) rfl) dX7_cut_4 ?_
  refine s_if_ne F 13 dX7_cut_7 (by decide) (fun _ => ?_) (fun _ => ?_)
  · refine s_iload_n F dX7_cut_13 rfl 1 rfl ?_
    refine s_if_lt F 33 dX7_cut_14 (by decide) (fun _ => ?_) (fun _ => ?_)
    · refine s_ldc F (v := (-1000001)) dX7_cut_33 m280 ?_
      exact s_iret F dX7_cut_35
    · refine s_iload_n F dX7_cut_17 rfl 1 rfl ?_
      refine s_bipush F (v := 30) dX7_cut_18 (by decide) ?_
      refine s_icmp_gt F 33 dX7_cut_20 (by decide) (fun _ => ?_) (fun _ => ?_)
      · refine s_ldc F (v := (-1000001)) dX7_cut_33 m280 ?_
        exact s_iret F dX7_cut_35
      · refine s_iload_n F dX7_cut_23 rfl 2 rfl ?_
        refine s_if_lt F 33 dX7_cut_24 (by decide) (fun _ => ?_) (fun _ => ?_)
        · refine s_ldc F (v := (-1000001)) dX7_cut_33 m280 ?_
          exact s_iret F dX7_cut_35
        · refine s_iload_n F dX7_cut_27 rfl 2 rfl ?_
          refine s_bipush F (v := 20) dX7_cut_28 (by decide) ?_
          refine s_icmp_le F 36 dX7_cut_30 (by decide) (fun _ => ?_) (fun _ => ?_)
          · refine s_aload_n F dX7_cut_36 rfl 0 rfl ?_
            have hw_2 := wf_ref F.2.2.2.2.2.2.1 hq 3 17 (.inl 2) rfl
            refine s_getr F ciX7 3 17 (.inl 2) hq (by decide) rfl rfl m242 dX7_cut_37 ?_
            refine s_iload_n F dX7_cut_40 rfl 1 rfl ?_
            refine s_iload_n F dX7_cut_41 rfl 2 rfl ?_
            refine s_callVi (f := fun hh => f_X2_tradesCutOff (q + 17) x1 x2 hh) (As := [.int x1, .int x2]) F yv_X2_tradesCutOff (ct_X2_tradesCutOff z.2.1 g hw_2 x1 x2) (by decide) m784 hw_2 rfl rfl rfl (Nat.le_of_ble_eq_true rfl) dX7_cut_42 (fun v_4 h_3 e_v_4 => ?_)
            exact s_iret F dX7_cut_45
          · refine s_ldc F (v := (-1000001)) dX7_cut_33 m280 ?_
            exact s_iret F dX7_cut_35
  · refine s_ldc F (v := (-1000002)) dX7_cut_10 m613 ?_
    exact s_iret F dX7_cut_12
theorem dX7_areTrades_0 : decode cX7_areTrades 0 = .ok (.iconst 0, 1) := by decide +kernel
theorem dX7_areTrades_1 : decode cX7_areTrades 1 = .ok (.istore_n 3, 1) := by decide +kernel
theorem dX7_areTrades_2 : decode cX7_areTrades 2 = .ok (.iload_n 3, 1) := by decide +kernel
theorem dX7_areTrades_3 : decode cX7_areTrades 3 = .ok (.aload_n 0, 1) := by decide +kernel
theorem dX7_areTrades_4 : decode cX7_areTrades 4 = .ok (.getfield 33, 3) := by decide +kernel
theorem dX7_areTrades_7 : decode cX7_areTrades 7 = .ok (.getfield 199, 3) := by decide +kernel
theorem dX7_areTrades_10 : decode cX7_areTrades 10 = .ok (.if_icmp .ge 28, 3) := by decide +kernel
theorem dX7_areTrades_13 : decode cX7_areTrades 13 = .ok (.aload_n 0, 1) := by decide +kernel
theorem dX7_areTrades_14 : decode cX7_areTrades 14 = .ok (.getfield 10, 3) := by decide +kernel
theorem dX7_areTrades_17 : decode cX7_areTrades 17 = .ok (.iload_n 1, 1) := by decide +kernel
theorem dX7_areTrades_18 : decode cX7_areTrades 18 = .ok (.iload_n 2, 1) := by decide +kernel
theorem dX7_areTrades_19 : decode cX7_areTrades 19 = .ok (.iload_n 3, 1) := by decide +kernel
theorem dX7_areTrades_20 : decode cX7_areTrades 20 = .ok (.iadd, 1) := by decide +kernel
theorem dX7_areTrades_21 : decode cX7_areTrades 21 = .ok (.invokevirtual 298, 3) := by decide +kernel
theorem dX7_areTrades_24 : decode cX7_areTrades 24 = .ok (.invokestatic 190, 3) := by decide +kernel
theorem dX7_areTrades_27 : decode cX7_areTrades 27 = .ok (.ifCond .ne 5, 3) := by decide +kernel
theorem dX7_areTrades_30 : decode cX7_areTrades 30 = .ok (.iconst 0, 1) := by decide +kernel
theorem dX7_areTrades_31 : decode cX7_areTrades 31 = .ok (.ireturn, 1) := by decide +kernel
theorem dX7_areTrades_32 : decode cX7_areTrades 32 = .ok (.iinc 3 1, 3) := by decide +kernel
theorem dX7_areTrades_35 : decode cX7_areTrades 35 = .ok (.goto (-33), 3) := by decide +kernel
theorem dX7_areTrades_38 : decode cX7_areTrades 38 = .ok (.iconst 1, 1) := by decide +kernel
theorem dX7_areTrades_39 : decode cX7_areTrades 39 = .ok (.ireturn, 1) := by decide +kernel
theorem yv_X7_areTrades : YV yX7_areTrades cX7_areTrades 4 (some .boolean) 2 := ⟨m794, ms24, m1, m795, ⟨by decide +kernel, by decide +kernel, by decide +kernel⟩, by decide⟩
noncomputable def f_X7_areTrades_2 (q : Nat) : Nat → Int32 → Int32 → Int32 → AH → Option (Int32 × AH)
  | 0, _, _, _, _ => none
  | n + 1, x1, x2, x3, h => if (h (q + 17) 2) ≤ x3 then (some (1, h)) else (bd (f_X5_itemAt (q + 1) x1 (x2 + x3) h) (fun v_4 h_3 => bd (f_X7_isTrade v_4 h_3) (fun v_6 h_5 => if v_6 = 0 then (some (0, h_5)) else (lt (x3 + 1) (fun v_7 => (f_X7_areTrades_2 q n) x1 x2 v_7 h_5)))))
set_option maxRecDepth 20000 in
set_option maxHeartbeats 4000000 in
theorem t_X7_areTrades_2 {z : MC} {g : GC} {A : Nat → Prop} (F : Fx z cX7_areTrades 4 RX7 (some .boolean) 2 g A) {q : Nat} (hq : (gL g)[q]? = some (.inl 7)) : ∀ (n : Nat) (x1 : Int32) (x2 : Int32) (x3 : Int32) (h : AH), Snd z 4 g A (QF z g A mkI) 2 [(0, .ref (gad g q)), (1, .int x1), (2, .int x2), (3, .int x3)] [] h (f_X7_areTrades_2 q n x1 x2 x3 h) := by
  intro n
  induction n with
  | zero => intros; exact s_none
  | succ n ih =>
    intro x1 x2 x3 h
    unfold f_X7_areTrades_2
    refine s_iload_n F dX7_areTrades_2 rfl 3 rfl ?_
    refine s_aload_n F dX7_areTrades_3 rfl 0 rfl ?_
    have hw_1 := wf_ref F.2.2.2.2.2.2.1 hq 3 17 (.inl 2) rfl
    refine s_getr F ciX7 3 17 (.inl 2) hq (by decide) rfl rfl m242 dX7_areTrades_4 ?_
    refine s_getiN F ciX2 2 hw_1 (by decide) rfl rfl (List.mem_of_getElem? (i := 3) rfl) dX7_areTrades_7 ?_
    refine s_icmp_ge F 38 dX7_areTrades_10 (by decide) (fun _ => ?_) (fun _ => ?_)
    · refine s_iconst F (v := 1) dX7_areTrades_38 (by decide) ?_
      exact s_zret1 F (by decide) dX7_areTrades_39
    · refine s_aload_n F dX7_areTrades_13 rfl 0 rfl ?_
      have hw_2 := wf_ref F.2.2.2.2.2.2.1 hq 0 1 (.inl 5) rfl
      refine s_getr F ciX7 0 1 (.inl 5) hq (by decide) rfl rfl m239 dX7_areTrades_14 ?_
      refine s_iload_n F dX7_areTrades_17 rfl 1 rfl ?_
      refine s_iload_n F dX7_areTrades_18 rfl 2 rfl ?_
      refine s_iload_n F dX7_areTrades_19 rfl 3 rfl ?_
      refine s_iadd F dX7_areTrades_20 ?_
      refine s_callVi (f := fun hh => f_X5_itemAt (q + 1) x1 (x2 + x3) hh) (As := [.int x1, .int (x2 + x3)]) F yv_X5_itemAt (ct_X5_itemAt z.2.1 g hw_2 x1 (x2 + x3)) (by decide) m796 hw_2 rfl rfl rfl (Nat.le_of_ble_eq_true rfl) dX7_areTrades_21 (fun v_4 h_3 e_v_4 => ?_)
      refine s_callSi (f := fun hh => f_X7_isTrade v_4 hh) (As := [.int v_4]) F ys_X7_isTrade (ct_X7_isTrade z.2.1 g v_4) (by decide) m638 rfl rfl (Nat.le_of_ble_eq_true rfl) dX7_areTrades_24 (fun v_6 h_5 e_v_6 => ?_)
      refine s_if_ne F 32 dX7_areTrades_27 (by decide) (fun _ => ?_) (fun _ => ?_)
      · refine s_iincv F dX7_areTrades_32 3 rfl (by decide) (c := 1) (by decide) (fun v_7 => ?_)
        refine s_lv (lv' := [(3, .int v_7), (0, .ref (gad g q)), (1, .int x1), (2, .int x2)]) rfl ?_
        refine s_goto F 2 dX7_areTrades_35 (by decide) ?_
        exact s_sub [1, 2, 3, 0] rfl (ih x1 x2 v_7 h_5)
      · refine s_iconst F (v := 0) dX7_areTrades_30 (by decide) ?_
        exact s_zret1 F (by decide) dX7_areTrades_31
noncomputable def f_X7_areTrades (q : Nat) (x1 : Int32) (x2 : Int32) (h : AH) : Option (Int32 × AH) := f_X7_areTrades_2 q fu x1 x2 0 h
set_option maxRecDepth 20000 in
set_option maxHeartbeats 4000000 in
theorem ct_X7_areTrades (l : Launch) (g : GC) {q : Nat} (hq : (gL g)[q]? = some (.inl 7)) (x1 : Int32) (x2 : Int32) : Ct l yX7_areTrades cX7_areTrades 4 (some .boolean) 2 [.ref (gad g q), .int x1, .int x2] g mkI (fun h => f_X7_areTrades q x1 x2 h) := by
  refine Ct.of (by decide +kernel) (Nat.le_of_ble_eq_true rfl) (fun z A h _ F => ?_)
  show Snd z 4 g A (QF z g A mkI) 0 [(0, .ref (gad g q)), (1, .int x1), (2, .int x2)] [] h (f_X7_areTrades q x1 x2 h)
  unfold f_X7_areTrades
  refine s_iconst F (v := 0) dX7_areTrades_0 (by decide) ?_
  refine s_istore_n F (lv' := [(3, .int 0), (0, .ref (gad g q)), (1, .int x1), (2, .int x2)]) dX7_areTrades_1 rfl (by decide) rfl ?_
  exact s_sub [1, 2, 3, 0] rfl (t_X7_areTrades_2 F hq fu x1 x2 0 h)
theorem dX7_falselyDeclared_0 : decode cX7_falselyDeclared 0 = .ok (.iconst 0, 1) := by decide +kernel
theorem dX7_falselyDeclared_1 : decode cX7_falselyDeclared 1 = .ok (.istore_n 3, 1) := by decide +kernel
theorem dX7_falselyDeclared_2 : decode cX7_falselyDeclared 2 = .ok (.iconst 0, 1) := by decide +kernel
theorem dX7_falselyDeclared_3 : decode cX7_falselyDeclared 3 = .ok (.istore 4, 2) := by decide +kernel
theorem dX7_falselyDeclared_5 : decode cX7_falselyDeclared 5 = .ok (.iload 4, 2) := by decide +kernel
theorem dX7_falselyDeclared_7 : decode cX7_falselyDeclared 7 = .ok (.aload_n 0, 1) := by decide +kernel
theorem dX7_falselyDeclared_8 : decode cX7_falselyDeclared 8 = .ok (.getfield 33, 3) := by decide +kernel
theorem dX7_falselyDeclared_11 : decode cX7_falselyDeclared 11 = .ok (.getfield 199, 3) := by decide +kernel
theorem dX7_falselyDeclared_14 : decode cX7_falselyDeclared 14 = .ok (.if_icmp .ge 63, 3) := by decide +kernel
theorem dX7_falselyDeclared_17 : decode cX7_falselyDeclared 17 = .ok (.aload_n 0, 1) := by decide +kernel
theorem dX7_falselyDeclared_18 : decode cX7_falselyDeclared 18 = .ok (.getfield 33, 3) := by decide +kernel
theorem dX7_falselyDeclared_21 : decode cX7_falselyDeclared 21 = .ok (.iload 4, 2) := by decide +kernel
theorem dX7_falselyDeclared_23 : decode cX7_falselyDeclared 23 = .ok (.invokevirtual 301, 3) := by decide +kernel
theorem dX7_falselyDeclared_26 : decode cX7_falselyDeclared 26 = .ok (.getstatic 304, 3) := by decide +kernel
theorem dX7_falselyDeclared_29 : decode cX7_falselyDeclared 29 = .ok (.aload_n 0, 1) := by decide +kernel
theorem dX7_falselyDeclared_30 : decode cX7_falselyDeclared 30 = .ok (.getfield 10, 3) := by decide +kernel
theorem dX7_falselyDeclared_33 : decode cX7_falselyDeclared 33 = .ok (.iload_n 1, 1) := by decide +kernel
theorem dX7_falselyDeclared_34 : decode cX7_falselyDeclared 34 = .ok (.iload_n 2, 1) := by decide +kernel
theorem dX7_falselyDeclared_35 : decode cX7_falselyDeclared 35 = .ok (.iload 4, 2) := by decide +kernel
theorem dX7_falselyDeclared_37 : decode cX7_falselyDeclared 37 = .ok (.iadd, 1) := by decide +kernel
theorem dX7_falselyDeclared_38 : decode cX7_falselyDeclared 38 = .ok (.invokevirtual 298, 3) := by decide +kernel
theorem dX7_falselyDeclared_41 : decode cX7_falselyDeclared 41 = .ok (.iaload, 1) := by decide +kernel
theorem dX7_falselyDeclared_42 : decode cX7_falselyDeclared 42 = .ok (.imul, 1) := by decide +kernel
theorem dX7_falselyDeclared_43 : decode cX7_falselyDeclared 43 = .ok (.istore 5, 2) := by decide +kernel
theorem dX7_falselyDeclared_45 : decode cX7_falselyDeclared 45 = .ok (.iload_n 3, 1) := by decide +kernel
theorem dX7_falselyDeclared_46 : decode cX7_falselyDeclared 46 = .ok (.iload 4, 2) := by decide +kernel
theorem dX7_falselyDeclared_48 : decode cX7_falselyDeclared 48 = .ok (.aload_n 0, 1) := by decide +kernel
theorem dX7_falselyDeclared_49 : decode cX7_falselyDeclared 49 = .ok (.getfield 33, 3) := by decide +kernel
theorem dX7_falselyDeclared_52 : decode cX7_falselyDeclared 52 = .ok (.iload 4, 2) := by decide +kernel
theorem dX7_falselyDeclared_54 : decode cX7_falselyDeclared 54 = .ok (.invokevirtual 307, 3) := by decide +kernel
theorem dX7_falselyDeclared_57 : decode cX7_falselyDeclared 57 = .ok (.iload 5, 2) := by decide +kernel
theorem dX7_falselyDeclared_59 : decode cX7_falselyDeclared 59 = .ok (.if_icmp .ne 7, 3) := by decide +kernel
theorem dX7_falselyDeclared_62 : decode cX7_falselyDeclared 62 = .ok (.iconst 0, 1) := by decide +kernel
theorem dX7_falselyDeclared_63 : decode cX7_falselyDeclared 63 = .ok (.goto 4, 3) := by decide +kernel
theorem dX7_falselyDeclared_66 : decode cX7_falselyDeclared 66 = .ok (.iconst 1, 1) := by decide +kernel
theorem dX7_falselyDeclared_67 : decode cX7_falselyDeclared 67 = .ok (.invokestatic 162, 3) := by decide +kernel
theorem dX7_falselyDeclared_70 : decode cX7_falselyDeclared 70 = .ok (.istore_n 3, 1) := by decide +kernel
theorem dX7_falselyDeclared_71 : decode cX7_falselyDeclared 71 = .ok (.iinc 4 1, 3) := by decide +kernel
theorem dX7_falselyDeclared_74 : decode cX7_falselyDeclared 74 = .ok (.goto (-69), 3) := by decide +kernel
theorem dX7_falselyDeclared_77 : decode cX7_falselyDeclared 77 = .ok (.iload_n 3, 1) := by decide +kernel
theorem dX7_falselyDeclared_78 : decode cX7_falselyDeclared 78 = .ok (.ireturn, 1) := by decide +kernel
theorem yv_X7_falselyDeclared : YV yX7_falselyDeclared cX7_falselyDeclared 6 (some .int) 2 := ⟨m802, ms25, m1, m803, ⟨by decide +kernel, by decide +kernel, by decide +kernel⟩, by decide⟩
noncomputable def f_X7_falselyDeclared_5 (q : Nat) : Nat → Int32 → Int32 → Int32 → Int32 → AH → Option (Int32 × AH)
  | 0, _, _, _, _, _ => none
  | n + 1, x1, x2, x3, x4, h => if (h (q + 17) 2) ≤ x4 then (some (x3, h)) else (bd (f_X2_allOf (q + 17) x4 h) (fun v_4 h_3 => bd (f_X5_itemAt (q + 1) x1 (x2 + x4) h_3) (fun v_7 h_6 => ck v_7 4 (lt ((v_4 * ((stv 0).getD (v_7 : Int32).toNatClampNeg 0))) (fun v_8 => bd (f_X2_weightOf (q + 17) x4 h_6) (fun v_11 h_10 => if v_11 = v_8 then (bd (f_X7_withBit x3 x4 0 h_10) (fun v_16 h_15 => lt (x4 + 1) (fun v_17 => (f_X7_falselyDeclared_5 q n) x1 x2 v_16 v_17 h_15))) else (bd (f_X7_withBit x3 x4 1 h_10) (fun v_13 h_12 => lt (x4 + 1) (fun v_14 => (f_X7_falselyDeclared_5 q n) x1 x2 v_13 v_14 h_12)))))))))
set_option maxRecDepth 20000 in
set_option maxHeartbeats 4000000 in
theorem t_X7_falselyDeclared_5 {z : MC} {g : GC} {A : Nat → Prop} (F : Fx z cX7_falselyDeclared 6 RX7 (some .int) 4 g A) {q : Nat} (hq : (gL g)[q]? = some (.inl 7)) : ∀ (n : Nat) (x1 : Int32) (x2 : Int32) (x3 : Int32) (x4 : Int32) (h : AH), Snd z 6 g A (QF z g A mkI) 5 [(0, .ref (gad g q)), (1, .int x1), (2, .int x2), (3, .int x3), (4, .int x4)] [] h (f_X7_falselyDeclared_5 q n x1 x2 x3 x4 h) := by
  intro n
  induction n with
  | zero => intros; exact s_none
  | succ n ih =>
    intro x1 x2 x3 x4 h
    unfold f_X7_falselyDeclared_5
    refine s_iload F dX7_falselyDeclared_5 4 rfl ?_
    refine s_aload_n F dX7_falselyDeclared_7 rfl 0 rfl ?_
    have hw_1 := wf_ref F.2.2.2.2.2.2.1 hq 3 17 (.inl 2) rfl
    refine s_getr F ciX7 3 17 (.inl 2) hq (by decide) rfl rfl m242 dX7_falselyDeclared_8 ?_
    refine s_getiN F ciX2 2 hw_1 (by decide) rfl rfl (List.mem_of_getElem? (i := 3) rfl) dX7_falselyDeclared_11 ?_
    refine s_icmp_ge F 77 dX7_falselyDeclared_14 (by decide) (fun _ => ?_) (fun _ => ?_)
    · refine s_iload_n F dX7_falselyDeclared_77 rfl 3 rfl ?_
      exact s_iret F dX7_falselyDeclared_78
    · refine s_aload_n F dX7_falselyDeclared_17 rfl 0 rfl ?_
      have hw_2 := wf_ref F.2.2.2.2.2.2.1 hq 3 17 (.inl 2) rfl
      refine s_getr F ciX7 3 17 (.inl 2) hq (by decide) rfl rfl m242 dX7_falselyDeclared_18 ?_
      refine s_iload F dX7_falselyDeclared_21 4 rfl ?_
      refine s_callVi (f := fun hh => f_X2_allOf (q + 17) x4 hh) (As := [.int x4]) F yv_X2_allOf (ct_X2_allOf z.2.1 g hw_2 x4) (by decide) m804 hw_2 rfl rfl rfl (Nat.le_of_ble_eq_true rfl) dX7_falselyDeclared_23 (fun v_4 h_3 e_v_4 => ?_)
      refine s_gets F 0 (by decide) rfl rfl m805 dX7_falselyDeclared_26 ?_
      refine s_aload_n F dX7_falselyDeclared_29 rfl 0 rfl ?_
      have hw_5 := wf_ref F.2.2.2.2.2.2.1 hq 0 1 (.inl 5) rfl
      refine s_getr F ciX7 0 1 (.inl 5) hq (by decide) rfl rfl m239 dX7_falselyDeclared_30 ?_
      refine s_iload_n F dX7_falselyDeclared_33 rfl 1 rfl ?_
      refine s_iload_n F dX7_falselyDeclared_34 rfl 2 rfl ?_
      refine s_iload F dX7_falselyDeclared_35 4 rfl ?_
      refine s_iadd F dX7_falselyDeclared_37 ?_
      refine s_callVi (f := fun hh => f_X5_itemAt (q + 1) x1 (x2 + x4) hh) (As := [.int x1, .int (x2 + x4)]) F yv_X5_itemAt (ct_X5_itemAt z.2.1 g hw_5 x1 (x2 + x4)) (by decide) m796 hw_5 rfl rfl rfl (Nat.le_of_ble_eq_true rfl) dX7_falselyDeclared_38 (fun v_7 h_6 e_v_7 => ?_)
      refine s_tld F 0 (by decide) rfl dX7_falselyDeclared_41 ?_
      refine s_imul F dX7_falselyDeclared_42 ?_
      refine s_leti (fun v_8 => ?_)
      refine s_istore F (lv' := [(5, .int v_8), (0, .ref (gad g q)), (1, .int x1), (2, .int x2), (3, .int x3), (4, .int x4)]) dX7_falselyDeclared_43 (by decide) rfl ?_
      refine s_iload_n F dX7_falselyDeclared_45 rfl 4 rfl ?_
      refine s_iload F dX7_falselyDeclared_46 5 rfl ?_
      refine s_aload_n F dX7_falselyDeclared_48 rfl 1 rfl ?_
      have hw_9 := wf_ref F.2.2.2.2.2.2.1 hq 3 17 (.inl 2) rfl
      refine s_getr F ciX7 3 17 (.inl 2) hq (by decide) rfl rfl m242 dX7_falselyDeclared_49 ?_
      refine s_iload F dX7_falselyDeclared_52 5 rfl ?_
      refine s_callVi (f := fun hh => f_X2_weightOf (q + 17) x4 hh) (As := [.int x4]) F yv_X2_weightOf (ct_X2_weightOf z.2.1 g hw_9 x4) (by decide) m807 hw_9 rfl rfl rfl (Nat.le_of_ble_eq_true rfl) dX7_falselyDeclared_54 (fun v_11 h_10 e_v_11 => ?_)
      refine s_iload F dX7_falselyDeclared_57 0 rfl ?_
      refine s_icmp_ne F 66 dX7_falselyDeclared_59 (by decide) (fun _ => ?_) (fun _ => ?_)
      · refine s_iconst F (v := 1) dX7_falselyDeclared_66 (by decide) ?_
        refine s_callSi (f := fun hh => f_X7_withBit x3 x4 1 hh) (As := [.int x3, .int x4, .int 1]) F ys_X7_withBit (ct_X7_withBit z.2.1 g x3 x4 1) (by decide) m555 rfl rfl (Nat.le_of_ble_eq_true rfl) dX7_falselyDeclared_67 (fun v_13 h_12 e_v_13 => ?_)
        refine s_istore_n F (lv' := [(3, .int v_13), (5, .int v_8), (0, .ref (gad g q)), (1, .int x1), (2, .int x2), (4, .int x4)]) dX7_falselyDeclared_70 rfl (by decide) rfl ?_
        refine s_iincv F dX7_falselyDeclared_71 5 rfl (by decide) (c := 1) (by decide) (fun v_14 => ?_)
        refine s_lv (lv' := [(4, .int v_14), (3, .int v_13), (5, .int v_8), (0, .ref (gad g q)), (1, .int x1), (2, .int x2)]) rfl ?_
        refine s_goto F 5 dX7_falselyDeclared_74 (by decide) ?_
        exact s_sub [3, 4, 5, 1, 0] rfl (ih x1 x2 v_13 v_14 h_12)
      · refine s_iconst F (v := 0) dX7_falselyDeclared_62 (by decide) ?_
        refine s_goto F 67 dX7_falselyDeclared_63 (by decide) ?_
        refine s_callSi (f := fun hh => f_X7_withBit x3 x4 0 hh) (As := [.int x3, .int x4, .int 0]) F ys_X7_withBit (ct_X7_withBit z.2.1 g x3 x4 0) (by decide) m555 rfl rfl (Nat.le_of_ble_eq_true rfl) dX7_falselyDeclared_67 (fun v_16 h_15 e_v_16 => ?_)
        refine s_istore_n F (lv' := [(3, .int v_16), (5, .int v_8), (0, .ref (gad g q)), (1, .int x1), (2, .int x2), (4, .int x4)]) dX7_falselyDeclared_70 rfl (by decide) rfl ?_
        refine s_iincv F dX7_falselyDeclared_71 5 rfl (by decide) (c := 1) (by decide) (fun v_17 => ?_)
        refine s_lv (lv' := [(4, .int v_17), (3, .int v_16), (5, .int v_8), (0, .ref (gad g q)), (1, .int x1), (2, .int x2)]) rfl ?_
        refine s_goto F 5 dX7_falselyDeclared_74 (by decide) ?_
        exact s_sub [3, 4, 5, 1, 0] rfl (ih x1 x2 v_16 v_17 h_15)
noncomputable def f_X7_falselyDeclared (q : Nat) (x1 : Int32) (x2 : Int32) (h : AH) : Option (Int32 × AH) := f_X7_falselyDeclared_5 q fu x1 x2 0 0 h
set_option maxRecDepth 20000 in
set_option maxHeartbeats 4000000 in
theorem ct_X7_falselyDeclared (l : Launch) (g : GC) {q : Nat} (hq : (gL g)[q]? = some (.inl 7)) (x1 : Int32) (x2 : Int32) : Ct l yX7_falselyDeclared cX7_falselyDeclared 6 (some .int) 4 [.ref (gad g q), .int x1, .int x2] g mkI (fun h => f_X7_falselyDeclared q x1 x2 h) := by
  refine Ct.of (by decide +kernel) (Nat.le_of_ble_eq_true rfl) (fun z A h _ F => ?_)
  show Snd z 6 g A (QF z g A mkI) 0 [(0, .ref (gad g q)), (1, .int x1), (2, .int x2)] [] h (f_X7_falselyDeclared q x1 x2 h)
  unfold f_X7_falselyDeclared
  refine s_iconst F (v := 0) dX7_falselyDeclared_0 (by decide) ?_
  refine s_istore_n F (lv' := [(3, .int 0), (0, .ref (gad g q)), (1, .int x1), (2, .int x2)]) dX7_falselyDeclared_1 rfl (by decide) rfl ?_
  refine s_iconst F (v := 0) dX7_falselyDeclared_2 (by decide) ?_
  refine s_istore F (lv' := [(4, .int 0), (3, .int 0), (0, .ref (gad g q)), (1, .int x1), (2, .int x2)]) dX7_falselyDeclared_3 (by decide) rfl ?_
  exact s_sub [2, 3, 4, 1, 0] rfl (t_X7_falselyDeclared_5 F hq fu x1 x2 0 0 h)
theorem dX7_weighed_0 : decode cX7_weighed 0 = .ok (.aload_n 0, 1) := by decide +kernel
theorem dX7_weighed_1 : decode cX7_weighed 1 = .ok (.getfield 33, 3) := by decide +kernel
theorem dX7_weighed_4 : decode cX7_weighed 4 = .ok (.getfield 205, 3) := by decide +kernel
theorem dX7_weighed_7 : decode cX7_weighed 7 = .ok (.ifCond .ne 6, 3) := by decide +kernel
theorem dX7_weighed_10 : decode cX7_weighed 10 = .ok (.ldc 183, 2) := by decide +kernel
theorem dX7_weighed_12 : decode cX7_weighed 12 = .ok (.ireturn, 1) := by decide +kernel
theorem dX7_weighed_13 : decode cX7_weighed 13 = .ok (.iload_n 1, 1) := by decide +kernel
theorem dX7_weighed_14 : decode cX7_weighed 14 = .ok (.invokestatic 64, 3) := by decide +kernel
theorem dX7_weighed_17 : decode cX7_weighed 17 = .ok (.ifCond .ne 6, 3) := by decide +kernel
theorem dX7_weighed_20 : decode cX7_weighed 20 = .ok (.ldc 68, 2) := by decide +kernel
theorem dX7_weighed_22 : decode cX7_weighed 22 = .ok (.ireturn, 1) := by decide +kernel
theorem dX7_weighed_23 : decode cX7_weighed 23 = .ok (.aload_n 0, 1) := by decide +kernel
theorem dX7_weighed_24 : decode cX7_weighed 24 = .ok (.getfield 10, 3) := by decide +kernel
theorem dX7_weighed_27 : decode cX7_weighed 27 = .ok (.iload_n 1, 1) := by decide +kernel
theorem dX7_weighed_28 : decode cX7_weighed 28 = .ok (.invokevirtual 80, 3) := by decide +kernel
theorem dX7_weighed_31 : decode cX7_weighed 31 = .ok (.ifCond .eq 9, 3) := by decide +kernel
theorem dX7_weighed_34 : decode cX7_weighed 34 = .ok (.aload_n 0, 1) := by decide +kernel
theorem dX7_weighed_35 : decode cX7_weighed 35 = .ok (.iconst 1, 1) := by decide +kernel
theorem dX7_weighed_36 : decode cX7_weighed 36 = .ok (.invokevirtual 69, 3) := by decide +kernel
theorem dX7_weighed_39 : decode cX7_weighed 39 = .ok (.ireturn, 1) := by decide +kernel
theorem dX7_weighed_40 : decode cX7_weighed 40 = .ok (.aload_n 0, 1) := by decide +kernel
theorem dX7_weighed_41 : decode cX7_weighed 41 = .ok (.getfield 10, 3) := by decide +kernel
theorem dX7_weighed_44 : decode cX7_weighed 44 = .ok (.iload_n 1, 1) := by decide +kernel
theorem dX7_weighed_45 : decode cX7_weighed 45 = .ok (.iload_n 2, 1) := by decide +kernel
theorem dX7_weighed_46 : decode cX7_weighed 46 = .ok (.aload_n 0, 1) := by decide +kernel
theorem dX7_weighed_47 : decode cX7_weighed 47 = .ok (.getfield 33, 3) := by decide +kernel
theorem dX7_weighed_50 : decode cX7_weighed 50 = .ok (.getfield 199, 3) := by decide +kernel
theorem dX7_weighed_53 : decode cX7_weighed 53 = .ok (.invokevirtual 83, 3) := by decide +kernel
theorem dX7_weighed_56 : decode cX7_weighed 56 = .ok (.ifCond .ne 9, 3) := by decide +kernel
theorem dX7_weighed_59 : decode cX7_weighed 59 = .ok (.aload_n 0, 1) := by decide +kernel
theorem dX7_weighed_60 : decode cX7_weighed 60 = .ok (.iconst 2, 1) := by decide +kernel
theorem dX7_weighed_61 : decode cX7_weighed 61 = .ok (.invokevirtual 69, 3) := by decide +kernel
theorem dX7_weighed_64 : decode cX7_weighed 64 = .ok (.ireturn, 1) := by decide +kernel
theorem dX7_weighed_65 : decode cX7_weighed 65 = .ok (.aload_n 0, 1) := by decide +kernel
theorem dX7_weighed_66 : decode cX7_weighed 66 = .ok (.iload_n 1, 1) := by decide +kernel
theorem dX7_weighed_67 : decode cX7_weighed 67 = .ok (.iload_n 2, 1) := by decide +kernel
theorem dX7_weighed_68 : decode cX7_weighed 68 = .ok (.invokevirtual 255, 3) := by decide +kernel
theorem dX7_weighed_71 : decode cX7_weighed 71 = .ok (.ifCond .eq 16, 3) := by decide +kernel
theorem dX7_weighed_74 : decode cX7_weighed 74 = .ok (.aload_n 0, 1) := by decide +kernel
theorem dX7_weighed_75 : decode cX7_weighed 75 = .ok (.aload_n 0, 1) := by decide +kernel
theorem dX7_weighed_76 : decode cX7_weighed 76 = .ok (.iload_n 1, 1) := by decide +kernel
theorem dX7_weighed_77 : decode cX7_weighed 77 = .ok (.iload_n 2, 1) := by decide +kernel
theorem dX7_weighed_78 : decode cX7_weighed 78 = .ok (.invokevirtual 258, 3) := by decide +kernel
theorem dX7_weighed_81 : decode cX7_weighed 81 = .ok (.invokevirtual 77, 3) := by decide +kernel
theorem dX7_weighed_84 : decode cX7_weighed 84 = .ok (.goto 5, 3) := by decide +kernel
theorem dX7_weighed_87 : decode cX7_weighed 87 = .ok (.ldc 68, 2) := by decide +kernel
theorem dX7_weighed_89 : decode cX7_weighed 89 = .ok (.ireturn, 1) := by decide +kernel
theorem yv_X7_weighed : YV yX7_weighed cX7_weighed 3 (some .int) 2 := ⟨m789, m790, m1, m791, ⟨by decide +kernel, by decide +kernel, by decide +kernel⟩, by decide⟩
noncomputable def f_X7_weighed (q : Nat) (x1 : Int32) (x2 : Int32) (h : AH) : Option (Int32 × AH) := if (h (q + 17) 0) = 0 then (some ((-1000002), h)) else (bd (f_X5_isRow x1 h) (fun v_3 h_2 => if v_3 = 0 then (some ((-1000001), h_2)) else (bd (f_X5_isMissing (q + 1) x1 h_2) (fun v_6 h_5 => if v_6 = 0 then (bd (f_X5_hasPlaces (q + 1) x1 x2 (h_5 (q + 17) 2) h_5) (fun v_10 h_9 => if v_10 = 0 then (bd (f_X7_found q 2 h_9) (fun v_18 h_17 => some (v_18, h_17))) else (bd (f_X7_areTrades q x1 x2 h_9) (fun v_12 h_11 => if v_12 = 0 then (some ((-1000001), h_11)) else (bd (f_X7_falselyDeclared q x1 x2 h_11) (fun v_14 h_13 => bd (f_X7_unfound q v_14 h_13) (fun v_16 h_15 => some (v_16, h_15)))))))) else (bd (f_X7_found q 1 h_5) (fun v_20 h_19 => some (v_20, h_19)))))))
set_option maxRecDepth 20000 in
set_option maxHeartbeats 4000000 in
theorem ct_X7_weighed (l : Launch) (g : GC) {q : Nat} (hq : (gL g)[q]? = some (.inl 7)) (x1 : Int32) (x2 : Int32) : Ct l yX7_weighed cX7_weighed 3 (some .int) 5 [.ref (gad g q), .int x1, .int x2] g mkI (fun h => f_X7_weighed q x1 x2 h) := by
  refine Ct.of (by decide +kernel) (Nat.le_of_ble_eq_true rfl) (fun z A h _ F => ?_)
  show Snd z 3 g A (QF z g A mkI) 0 [(0, .ref (gad g q)), (1, .int x1), (2, .int x2)] [] h (f_X7_weighed q x1 x2 h)
  unfold f_X7_weighed
  refine s_aload_n F dX7_weighed_0 rfl 0 rfl ?_
  have hw_1 := wf_ref F.2.2.2.2.2.2.1 hq 3 17 (.inl 2) rfl
  refine s_getr F ciX7 3 17 (.inl 2) hq (by decide) rfl rfl m242 dX7_weighed_1 ?_
  refine s_getiN F ciX2 0 hw_1 (by decide) rfl rfl (List.mem_of_getElem? (i := 4) rfl) dX7_weighed_4 ?_
  refine s_if_ne F 13 dX7_weighed_7 (by decide) (fun _ => ?_) (fun _ => ?_)
  · refine s_iload_n F dX7_weighed_13 rfl 1 rfl ?_
    refine s_callSi (f := fun hh => f_X5_isRow x1 hh) (As := [.int x1]) F ys_X5_isRow (ct_X5_isRow z.2.1 g x1) (by decide) m277 rfl rfl (Nat.le_of_ble_eq_true rfl) dX7_weighed_14 (fun v_3 h_2 e_v_3 => ?_)
    refine s_if_ne F 23 dX7_weighed_17 (by decide) (fun _ => ?_) (fun _ => ?_)
    · refine s_aload_n F dX7_weighed_23 rfl 0 rfl ?_
      have hw_4 := wf_ref F.2.2.2.2.2.2.1 hq 0 1 (.inl 5) rfl
      refine s_getr F ciX7 0 1 (.inl 5) hq (by decide) rfl rfl m239 dX7_weighed_24 ?_
      refine s_iload_n F dX7_weighed_27 rfl 1 rfl ?_
      refine s_callVi (f := fun hh => f_X5_isMissing (q + 1) x1 hh) (As := [.int x1]) F yv_X5_isMissing (ct_X5_isMissing z.2.1 g hw_4 x1) (by decide) m298 hw_4 rfl rfl rfl (Nat.le_of_ble_eq_true rfl) dX7_weighed_28 (fun v_6 h_5 e_v_6 => ?_)
      refine s_if_eq F 40 dX7_weighed_31 (by decide) (fun _ => ?_) (fun _ => ?_)
      · refine s_aload_n F dX7_weighed_40 rfl 0 rfl ?_
        have hw_7 := wf_ref F.2.2.2.2.2.2.1 hq 0 1 (.inl 5) rfl
        refine s_getr F ciX7 0 1 (.inl 5) hq (by decide) rfl rfl m239 dX7_weighed_41 ?_
        refine s_iload_n F dX7_weighed_44 rfl 1 rfl ?_
        refine s_iload_n F dX7_weighed_45 rfl 2 rfl ?_
        refine s_aload_n F dX7_weighed_46 rfl 0 rfl ?_
        have hw_8 := wf_ref F.2.2.2.2.2.2.1 hq 3 17 (.inl 2) rfl
        refine s_getr F ciX7 3 17 (.inl 2) hq (by decide) rfl rfl m242 dX7_weighed_47 ?_
        refine s_getiN F ciX2 2 hw_8 (by decide) rfl rfl (List.mem_of_getElem? (i := 3) rfl) dX7_weighed_50 ?_
        refine s_callVi (f := fun hh => f_X5_hasPlaces (q + 1) x1 x2 (h_5 (q + 17) 2) hh) (As := [.int x1, .int x2, .int (h_5 (q + 17) 2)]) F yv_X5_hasPlaces (ct_X5_hasPlaces z.2.1 g hw_7 x1 x2 (h_5 (q + 17) 2)) (by decide) m302 hw_7 rfl rfl rfl (Nat.le_of_ble_eq_true rfl) dX7_weighed_53 (fun v_10 h_9 e_v_10 => ?_)
        refine s_if_ne F 65 dX7_weighed_56 (by decide) (fun _ => ?_) (fun _ => ?_)
        · refine s_aload_n F dX7_weighed_65 rfl 0 rfl ?_
          refine s_iload_n F dX7_weighed_66 rfl 1 rfl ?_
          refine s_iload_n F dX7_weighed_67 rfl 2 rfl ?_
          refine s_callVi (f := fun hh => f_X7_areTrades q x1 x2 hh) (As := [.int x1, .int x2]) F yv_X7_areTrades (ct_X7_areTrades z.2.1 g hq x1 x2) (by decide) m792 hq rfl rfl rfl (Nat.le_of_ble_eq_true rfl) dX7_weighed_68 (fun v_12 h_11 e_v_12 => ?_)
          refine s_if_eq F 87 dX7_weighed_71 (by decide) (fun _ => ?_) (fun _ => ?_)
          · refine s_ldc F (v := (-1000001)) dX7_weighed_87 m280 ?_
            exact s_iret F dX7_weighed_89
          · refine s_aload_n F dX7_weighed_74 rfl 0 rfl ?_
            refine s_aload_n F dX7_weighed_75 rfl 0 rfl ?_
            refine s_iload_n F dX7_weighed_76 rfl 1 rfl ?_
            refine s_iload_n F dX7_weighed_77 rfl 2 rfl ?_
            refine s_callVi (f := fun hh => f_X7_falselyDeclared q x1 x2 hh) (As := [.int x1, .int x2]) F yv_X7_falselyDeclared (ct_X7_falselyDeclared z.2.1 g hq x1 x2) (by decide) m800 hq rfl rfl rfl (Nat.le_of_ble_eq_true rfl) dX7_weighed_78 (fun v_14 h_13 e_v_14 => ?_)
            refine s_callVi (f := fun hh => f_X7_unfound q v_14 hh) (As := [.int v_14]) F yv_X7_unfound (ct_X7_unfound z.2.1 g hq v_14) (by decide) m290 hq rfl rfl rfl (Nat.le_of_ble_eq_true rfl) dX7_weighed_81 (fun v_16 h_15 e_v_16 => ?_)
            refine s_goto F 89 dX7_weighed_84 (by decide) ?_
            exact s_iret F dX7_weighed_89
        · refine s_aload_n F dX7_weighed_59 rfl 0 rfl ?_
          refine s_iconst F (v := 2) dX7_weighed_60 (by decide) ?_
          refine s_callVi (f := fun hh => f_X7_found q 2 hh) (As := [.int 2]) F yv_X7_found (ct_X7_found z.2.1 g hq 2) (by decide) m281 hq rfl rfl rfl (Nat.le_of_ble_eq_true rfl) dX7_weighed_61 (fun v_18 h_17 e_v_18 => ?_)
          exact s_iret F dX7_weighed_64
      · refine s_aload_n F dX7_weighed_34 rfl 0 rfl ?_
        refine s_iconst F (v := 1) dX7_weighed_35 (by decide) ?_
        refine s_callVi (f := fun hh => f_X7_found q 1 hh) (As := [.int 1]) F yv_X7_found (ct_X7_found z.2.1 g hq 1) (by decide) m281 hq rfl rfl rfl (Nat.le_of_ble_eq_true rfl) dX7_weighed_36 (fun v_20 h_19 e_v_20 => ?_)
        exact s_iret F dX7_weighed_39
    · refine s_ldc F (v := (-1000001)) dX7_weighed_20 m280 ?_
      exact s_iret F dX7_weighed_22
  · refine s_ldc F (v := (-1000002)) dX7_weighed_10 m613 ?_
    exact s_iret F dX7_weighed_12
theorem dX7_imageOf_0 : decode cX7_imageOf 0 = .ok (.iload_n 1, 1) := by decide +kernel
theorem dX7_imageOf_1 : decode cX7_imageOf 1 = .ok (.ifCond .ne 10, 3) := by decide +kernel
theorem dX7_imageOf_4 : decode cX7_imageOf 4 = .ok (.aload_n 0, 1) := by decide +kernel
theorem dX7_imageOf_5 : decode cX7_imageOf 5 = .ok (.getfield 37, 3) := by decide +kernel
theorem dX7_imageOf_8 : decode cX7_imageOf 8 = .ok (.goto 7, 3) := by decide +kernel
theorem dX7_imageOf_11 : decode cX7_imageOf 11 = .ok (.aload_n 0, 1) := by decide +kernel
theorem dX7_imageOf_12 : decode cX7_imageOf 12 = .ok (.getfield 40, 3) := by decide +kernel
theorem dX7_imageOf_15 : decode cX7_imageOf 15 = .ok (.areturn, 1) := by decide +kernel
theorem yv_X7_imageOf : YV yX7_imageOf cX7_imageOf 2 (some (.object "ArchTrades$Bridge")) 1 := ⟨m821, ms26, m1, m822, ⟨by decide +kernel, by decide +kernel, by decide +kernel⟩, by decide⟩
noncomputable def f_X7_imageOf (q : Nat) (x1 : Int32) (h : AH) : Option (Nat × AH) := if x1 = 0 then (some ((q + 26), h)) else (some ((q + 35), h))
set_option maxRecDepth 20000 in
set_option maxHeartbeats 4000000 in
theorem ct_X7_imageOf (l : Launch) (g : GC) {q : Nat} (hq : (gL g)[q]? = some (.inl 7)) (x1 : Int32) : Ct l yX7_imageOf cX7_imageOf 2 (some (.object "ArchTrades$Bridge")) 1 [.ref (gad g q), .int x1] g (mkR g) (fun h => f_X7_imageOf q x1 h) := by
  refine Ct.of (by decide +kernel) (Nat.le_of_ble_eq_true rfl) (fun z A h _ F => ?_)
  show Snd z 2 g A (QF z g A (mkR g)) 0 [(0, .ref (gad g q)), (1, .int x1)] [] h (f_X7_imageOf q x1 h)
  unfold f_X7_imageOf
  refine s_iload_n F dX7_imageOf_0 rfl 1 rfl ?_
  refine s_if_ne F 11 dX7_imageOf_1 (by decide) (fun _ => ?_) (fun _ => ?_)
  · refine s_aload_n F dX7_imageOf_11 rfl 0 rfl ?_
    have hw_1 := wf_ref F.2.2.2.2.2.2.1 hq 5 35 (.inl 2) rfl
    refine s_getr F ciX7 5 35 (.inl 2) hq (by decide) rfl rfl m244 dX7_imageOf_12 ?_
    exact s_aret F dX7_imageOf_15
  · refine s_aload_n F dX7_imageOf_4 rfl 0 rfl ?_
    have hw_2 := wf_ref F.2.2.2.2.2.2.1 hq 4 26 (.inl 2) rfl
    refine s_getr F ciX7 4 26 (.inl 2) hq (by decide) rfl rfl m243 dX7_imageOf_5 ?_
    refine s_goto F 15 dX7_imageOf_8 (by decide) ?_
    exact s_aret F dX7_imageOf_15
theorem ok_X7_imageOf {La : List Sh} (w : wfL La) {q : Nat} (hq : La[q]? = some (.inl 7)) {x1 : Int32} {h h2 : AH} {r : Nat} (e : f_X7_imageOf q x1 h = some (r, h2)) : La[r]? = some (.inl 2) := by
  unfold f_X7_imageOf at e
  split at e
  · obtain ⟨rfl, -⟩ := Prod.mk.inj (Option.some.inj e)
    first | exact wf_ref w hq 4 26 (.inl 2) rfl | exact wf_ref w hq 5 35 (.inl 2) rfl
  · obtain ⟨rfl, -⟩ := Prod.mk.inj (Option.some.inj e)
    first | exact wf_ref w hq 5 35 (.inl 2) rfl | exact wf_ref w hq 4 26 (.inl 2) rfl
theorem dX7_image_0 : decode cX7_image 0 = .ok (.iload_n 1, 1) := by decide +kernel
theorem dX7_image_1 : decode cX7_image 1 = .ok (.invokestatic 261, 3) := by decide +kernel
theorem dX7_image_4 : decode cX7_image 4 = .ok (.ifCond .ne 6, 3) := by decide +kernel
theorem dX7_image_7 : decode cX7_image 7 = .ok (.ldc 68, 2) := by decide +kernel
theorem dX7_image_9 : decode cX7_image 9 = .ok (.ireturn, 1) := by decide +kernel
theorem dX7_image_10 : decode cX7_image 10 = .ok (.aload_n 0, 1) := by decide +kernel
theorem dX7_image_11 : decode cX7_image 11 = .ok (.getfield 33, 3) := by decide +kernel
theorem dX7_image_14 : decode cX7_image 14 = .ok (.getfield 205, 3) := by decide +kernel
theorem dX7_image_17 : decode cX7_image 17 = .ok (.ifCond .ne 6, 3) := by decide +kernel
theorem dX7_image_20 : decode cX7_image 20 = .ok (.ldc 183, 2) := by decide +kernel
theorem dX7_image_22 : decode cX7_image 22 = .ok (.ireturn, 1) := by decide +kernel
theorem dX7_image_23 : decode cX7_image 23 = .ok (.aload_n 0, 1) := by decide +kernel
theorem dX7_image_24 : decode cX7_image 24 = .ok (.iload_n 1, 1) := by decide +kernel
theorem dX7_image_25 : decode cX7_image 25 = .ok (.invokevirtual 264, 3) := by decide +kernel
theorem dX7_image_28 : decode cX7_image 28 = .ok (.aload_n 0, 1) := by decide +kernel
theorem dX7_image_29 : decode cX7_image 29 = .ok (.getfield 33, 3) := by decide +kernel
theorem dX7_image_32 : decode cX7_image 32 = .ok (.invokevirtual 132, 3) := by decide +kernel
theorem dX7_image_35 : decode cX7_image 35 = .ok (.iconst 1, 1) := by decide +kernel
theorem dX7_image_36 : decode cX7_image 36 = .ok (.ireturn, 1) := by decide +kernel
theorem yv_X7_image : YV yX7_image cX7_image 2 (some .int) 1 := ⟨m813, m814, m1, m815, ⟨by decide +kernel, by decide +kernel, by decide +kernel⟩, by decide⟩
noncomputable def f_X7_image (q : Nat) (x1 : Int32) (h : AH) : Option (Int32 × AH) := bd (f_X7_isImage x1 h) (fun v_2 h_1 => if v_2 = 0 then (some ((-1000001), h_1)) else (if (h_1 (q + 17) 0) = 0 then (some ((-1000002), h_1)) else (bd (f_X7_imageOf q x1 h_1) (fun v_5 h_4 => bd (f_X2_become v_5 (q + 17) h_4) (fun _ h_7 => some (1, h_7))))))
set_option maxRecDepth 20000 in
set_option maxHeartbeats 4000000 in
theorem ct_X7_image (l : Launch) (g : GC) {q : Nat} (hq : (gL g)[q]? = some (.inl 7)) (x1 : Int32) : Ct l yX7_image cX7_image 2 (some .int) 2 [.ref (gad g q), .int x1] g mkI (fun h => f_X7_image q x1 h) := by
  refine Ct.of (by decide +kernel) (Nat.le_of_ble_eq_true rfl) (fun z A h _ F => ?_)
  show Snd z 2 g A (QF z g A mkI) 0 [(0, .ref (gad g q)), (1, .int x1)] [] h (f_X7_image q x1 h)
  unfold f_X7_image
  refine s_iload_n F dX7_image_0 rfl 1 rfl ?_
  refine s_callSi (f := fun hh => f_X7_isImage x1 hh) (As := [.int x1]) F ys_X7_isImage (ct_X7_isImage z.2.1 g x1) (by decide) m816 rfl rfl (Nat.le_of_ble_eq_true rfl) dX7_image_1 (fun v_2 h_1 e_v_2 => ?_)
  refine s_if_ne F 10 dX7_image_4 (by decide) (fun _ => ?_) (fun _ => ?_)
  · refine s_aload_n F dX7_image_10 rfl 0 rfl ?_
    have hw_3 := wf_ref F.2.2.2.2.2.2.1 hq 3 17 (.inl 2) rfl
    refine s_getr F ciX7 3 17 (.inl 2) hq (by decide) rfl rfl m242 dX7_image_11 ?_
    refine s_getiN F ciX2 0 hw_3 (by decide) rfl rfl (List.mem_of_getElem? (i := 4) rfl) dX7_image_14 ?_
    refine s_if_ne F 23 dX7_image_17 (by decide) (fun _ => ?_) (fun _ => ?_)
    · refine s_aload_n F dX7_image_23 rfl 0 rfl ?_
      refine s_iload_n F dX7_image_24 rfl 1 rfl ?_
      refine s_callVr (f := fun hh => f_X7_imageOf q x1 hh) (As := [.int x1]) F yv_X7_imageOf (ct_X7_imageOf z.2.1 g hq x1) (by decide) m819 hq rfl rfl rfl (Nat.le_of_ble_eq_true rfl) dX7_image_25 (fun v_5 h_4 e_v_5 => ?_)
      have ho_v_5 := ok_X7_imageOf F.2.2.2.2.2.2.1 hq e_v_5
      refine s_aload_n F dX7_image_28 rfl 0 rfl ?_
      have hw_6 := wf_ref F.2.2.2.2.2.2.1 hq 3 17 (.inl 2) rfl
      refine s_getr F ciX7 3 17 (.inl 2) hq (by decide) rfl rfl m242 dX7_image_29 ?_
      refine s_callVu (f := fun hh => f_X2_become v_5 (q + 17) hh) (As := [.ref (gad g (q + 17))]) F yv_X2_become (ct_X2_become z.2.1 g ho_v_5 hw_6) (by decide) m514 ho_v_5 rfl rfl rfl (Nat.le_of_ble_eq_true rfl) dX7_image_32 (fun _ h_7 e_v_8 => ?_)
      refine s_iconst F (v := 1) dX7_image_35 (by decide) ?_
      exact s_iret F dX7_image_36
    · refine s_ldc F (v := (-1000002)) dX7_image_20 m613 ?_
      exact s_iret F dX7_image_22
  · refine s_ldc F (v := (-1000001)) dX7_image_7 m280 ?_
    exact s_iret F dX7_image_9
theorem dX7_restore_0 : decode cX7_restore 0 = .ok (.iload_n 1, 1) := by decide +kernel
theorem dX7_restore_1 : decode cX7_restore 1 = .ok (.invokestatic 261, 3) := by decide +kernel
theorem dX7_restore_4 : decode cX7_restore 4 = .ok (.ifCond .ne 6, 3) := by decide +kernel
theorem dX7_restore_7 : decode cX7_restore 7 = .ok (.ldc 68, 2) := by decide +kernel
theorem dX7_restore_9 : decode cX7_restore 9 = .ok (.ireturn, 1) := by decide +kernel
theorem dX7_restore_10 : decode cX7_restore 10 = .ok (.aload_n 0, 1) := by decide +kernel
theorem dX7_restore_11 : decode cX7_restore 11 = .ok (.iload_n 1, 1) := by decide +kernel
theorem dX7_restore_12 : decode cX7_restore 12 = .ok (.invokevirtual 264, 3) := by decide +kernel
theorem dX7_restore_15 : decode cX7_restore 15 = .ok (.getfield 205, 3) := by decide +kernel
theorem dX7_restore_18 : decode cX7_restore 18 = .ok (.ifCond .ne 6, 3) := by decide +kernel
theorem dX7_restore_21 : decode cX7_restore 21 = .ok (.ldc 183, 2) := by decide +kernel
theorem dX7_restore_23 : decode cX7_restore 23 = .ok (.ireturn, 1) := by decide +kernel
theorem dX7_restore_24 : decode cX7_restore 24 = .ok (.aload_n 0, 1) := by decide +kernel
theorem dX7_restore_25 : decode cX7_restore 25 = .ok (.getfield 33, 3) := by decide +kernel
theorem dX7_restore_28 : decode cX7_restore 28 = .ok (.aload_n 0, 1) := by decide +kernel
theorem dX7_restore_29 : decode cX7_restore 29 = .ok (.iload_n 1, 1) := by decide +kernel
theorem dX7_restore_30 : decode cX7_restore 30 = .ok (.invokevirtual 264, 3) := by decide +kernel
theorem dX7_restore_33 : decode cX7_restore 33 = .ok (.invokevirtual 132, 3) := by decide +kernel
theorem dX7_restore_36 : decode cX7_restore 36 = .ok (.aload_n 0, 1) := by decide +kernel
theorem dX7_restore_37 : decode cX7_restore 37 = .ok (.getfield 46, 3) := by decide +kernel
theorem dX7_restore_40 : decode cX7_restore 40 = .ok (.invokevirtual 136, 3) := by decide +kernel
theorem dX7_restore_43 : decode cX7_restore 43 = .ok (.iconst 1, 1) := by decide +kernel
theorem dX7_restore_44 : decode cX7_restore 44 = .ok (.ireturn, 1) := by decide +kernel
theorem yv_X7_restore : YV yX7_restore cX7_restore 2 (some .int) 1 := ⟨m824, m825, m1, m826, ⟨by decide +kernel, by decide +kernel, by decide +kernel⟩, by decide⟩
noncomputable def f_X7_restore (q : Nat) (x1 : Int32) (h : AH) : Option (Int32 × AH) := bd (f_X7_isImage x1 h) (fun v_2 h_1 => if v_2 = 0 then (some ((-1000001), h_1)) else (bd (f_X7_imageOf q x1 h_1) (fun v_4 h_3 => if (h_3 v_4 0) = 0 then (some ((-1000002), h_3)) else (bd (f_X7_imageOf q x1 h_3) (fun v_7 h_6 => bd (f_X2_become (q + 17) v_7 h_6) (fun _ h_8 => bd (f_X0_forget (q + 44) h_8) (fun _ h_11 => some (1, h_11))))))))
set_option maxRecDepth 20000 in
set_option maxHeartbeats 4000000 in
theorem ct_X7_restore (l : Launch) (g : GC) {q : Nat} (hq : (gL g)[q]? = some (.inl 7)) (x1 : Int32) : Ct l yX7_restore cX7_restore 2 (some .int) 2 [.ref (gad g q), .int x1] g mkI (fun h => f_X7_restore q x1 h) := by
  refine Ct.of (by decide +kernel) (Nat.le_of_ble_eq_true rfl) (fun z A h _ F => ?_)
  show Snd z 2 g A (QF z g A mkI) 0 [(0, .ref (gad g q)), (1, .int x1)] [] h (f_X7_restore q x1 h)
  unfold f_X7_restore
  refine s_iload_n F dX7_restore_0 rfl 1 rfl ?_
  refine s_callSi (f := fun hh => f_X7_isImage x1 hh) (As := [.int x1]) F ys_X7_isImage (ct_X7_isImage z.2.1 g x1) (by decide) m816 rfl rfl (Nat.le_of_ble_eq_true rfl) dX7_restore_1 (fun v_2 h_1 e_v_2 => ?_)
  refine s_if_ne F 10 dX7_restore_4 (by decide) (fun _ => ?_) (fun _ => ?_)
  · refine s_aload_n F dX7_restore_10 rfl 0 rfl ?_
    refine s_iload_n F dX7_restore_11 rfl 1 rfl ?_
    refine s_callVr (f := fun hh => f_X7_imageOf q x1 hh) (As := [.int x1]) F yv_X7_imageOf (ct_X7_imageOf z.2.1 g hq x1) (by decide) m819 hq rfl rfl rfl (Nat.le_of_ble_eq_true rfl) dX7_restore_12 (fun v_4 h_3 e_v_4 => ?_)
    have ho_v_4 := ok_X7_imageOf F.2.2.2.2.2.2.1 hq e_v_4
    refine s_getiN F ciX2 0 ho_v_4 (by decide) rfl rfl (List.mem_of_getElem? (i := 4) rfl) dX7_restore_15 ?_
    refine s_if_ne F 24 dX7_restore_18 (by decide) (fun _ => ?_) (fun _ => ?_)
    · refine s_aload_n F dX7_restore_24 rfl 0 rfl ?_
      have hw_5 := wf_ref F.2.2.2.2.2.2.1 hq 3 17 (.inl 2) rfl
      refine s_getr F ciX7 3 17 (.inl 2) hq (by decide) rfl rfl m242 dX7_restore_25 ?_
      refine s_aload_n F dX7_restore_28 rfl 0 rfl ?_
      refine s_iload_n F dX7_restore_29 rfl 1 rfl ?_
      refine s_callVr (f := fun hh => f_X7_imageOf q x1 hh) (As := [.int x1]) F yv_X7_imageOf (ct_X7_imageOf z.2.1 g hq x1) (by decide) m819 hq rfl rfl rfl (Nat.le_of_ble_eq_true rfl) dX7_restore_30 (fun v_7 h_6 e_v_7 => ?_)
      have ho_v_7 := ok_X7_imageOf F.2.2.2.2.2.2.1 hq e_v_7
      refine s_callVu (f := fun hh => f_X2_become (q + 17) v_7 hh) (As := [.ref (gad g v_7)]) F yv_X2_become (ct_X2_become z.2.1 g hw_5 ho_v_7) (by decide) m514 hw_5 rfl rfl rfl (Nat.le_of_ble_eq_true rfl) dX7_restore_33 (fun _ h_8 e_v_9 => ?_)
      refine s_aload_n F dX7_restore_36 rfl 0 rfl ?_
      have hw_10 := wf_ref F.2.2.2.2.2.2.1 hq 6 44 (.inl 0) rfl
      refine s_getr F ciX7 6 44 (.inl 0) hq (by decide) rfl rfl m245 dX7_restore_37 ?_
      refine s_callVu (f := fun hh => f_X0_forget (q + 44) hh) (As := []) F yv_X0_forget (ct_X0_forget z.2.1 g hw_10) (by decide) m519 hw_10 rfl rfl rfl (Nat.le_of_ble_eq_true rfl) dX7_restore_40 (fun _ h_11 e_v_12 => ?_)
      refine s_iconst F (v := 1) dX7_restore_43 (by decide) ?_
      exact s_iret F dX7_restore_44
    · refine s_ldc F (v := (-1000002)) dX7_restore_21 m613 ?_
      exact s_iret F dX7_restore_23
  · refine s_ldc F (v := (-1000001)) dX7_restore_7 m280 ?_
    exact s_iret F dX7_restore_9
theorem dX7_kind_0 : decode cX7_kind 0 = .ok (.aload_n 0, 1) := by decide +kernel
theorem dX7_kind_1 : decode cX7_kind 1 = .ok (.getfield 33, 3) := by decide +kernel
theorem dX7_kind_4 : decode cX7_kind 4 = .ok (.iload_n 1, 1) := by decide +kernel
theorem dX7_kind_5 : decode cX7_kind 5 = .ok (.invokevirtual 165, 3) := by decide +kernel
theorem dX7_kind_8 : decode cX7_kind 8 = .ok (.ifCond .eq 15, 3) := by decide +kernel
theorem dX7_kind_11 : decode cX7_kind 11 = .ok (.aload_n 0, 1) := by decide +kernel
theorem dX7_kind_12 : decode cX7_kind 12 = .ok (.getfield 33, 3) := by decide +kernel
theorem dX7_kind_15 : decode cX7_kind 15 = .ok (.getfield 268, 3) := by decide +kernel
theorem dX7_kind_18 : decode cX7_kind 18 = .ok (.iload_n 1, 1) := by decide +kernel
theorem dX7_kind_19 : decode cX7_kind 19 = .ok (.iaload, 1) := by decide +kernel
theorem dX7_kind_20 : decode cX7_kind 20 = .ok (.goto 5, 3) := by decide +kernel
theorem dX7_kind_23 : decode cX7_kind 23 = .ok (.ldc 68, 2) := by decide +kernel
theorem dX7_kind_25 : decode cX7_kind 25 = .ok (.ireturn, 1) := by decide +kernel
theorem yv_X7_kind : YV yX7_kind cX7_kind 2 (some .int) 1 := ⟨m828, m829, m1, m830, ⟨by decide +kernel, by decide +kernel, by decide +kernel⟩, by decide⟩
noncomputable def f_X7_kind (q : Nat) (x1 : Int32) (h : AH) : Option (Int32 × AH) := bd (f_X2_isBoat (q + 17) x1 h) (fun v_3 h_2 => if v_3 = 0 then (some ((-1000001), h_2)) else (ck x1 6 (some (h_2 (q + 17 + 5) (x1 : Int32).toNatClampNeg, h_2))))
set_option maxRecDepth 20000 in
set_option maxHeartbeats 4000000 in
theorem ct_X7_kind (l : Launch) (g : GC) {q : Nat} (hq : (gL g)[q]? = some (.inl 7)) (x1 : Int32) : Ct l yX7_kind cX7_kind 2 (some .int) 2 [.ref (gad g q), .int x1] g mkI (fun h => f_X7_kind q x1 h) := by
  refine Ct.of (by decide +kernel) (Nat.le_of_ble_eq_true rfl) (fun z A h _ F => ?_)
  show Snd z 2 g A (QF z g A mkI) 0 [(0, .ref (gad g q)), (1, .int x1)] [] h (f_X7_kind q x1 h)
  unfold f_X7_kind
  refine s_aload_n F dX7_kind_0 rfl 0 rfl ?_
  have hw_1 := wf_ref F.2.2.2.2.2.2.1 hq 3 17 (.inl 2) rfl
  refine s_getr F ciX7 3 17 (.inl 2) hq (by decide) rfl rfl m242 dX7_kind_1 ?_
  refine s_iload_n F dX7_kind_4 rfl 1 rfl ?_
  refine s_callVi (f := fun hh => f_X2_isBoat (q + 17) x1 hh) (As := [.int x1]) F yv_X2_isBoat (ct_X2_isBoat z.2.1 g hw_1 x1) (by decide) m562 hw_1 rfl rfl rfl (Nat.le_of_ble_eq_true rfl) dX7_kind_5 (fun v_3 h_2 e_v_3 => ?_)
  refine s_if_eq F 23 dX7_kind_8 (by decide) (fun _ => ?_) (fun _ => ?_)
  · refine s_ldc F (v := (-1000001)) dX7_kind_23 m280 ?_
    exact s_iret F dX7_kind_25
  · refine s_aload_n F dX7_kind_11 rfl 0 rfl ?_
    have hw_4 := wf_ref F.2.2.2.2.2.2.1 hq 3 17 (.inl 2) rfl
    refine s_getr F ciX7 3 17 (.inl 2) hq (by decide) rfl rfl m242 dX7_kind_12 ?_
    have hw_5 := wf_ref F.2.2.2.2.2.2.1 hw_4 11 5 (.inr (0, 6)) rfl
    refine s_getrN F ciX2 11 5 (.inr (0, 6)) hw_4 (by decide) rfl rfl (List.mem_of_getElem? (i := 9) rfl) dX7_kind_15 ?_
    refine s_iload_n F dX7_kind_18 rfl 1 rfl ?_
    refine s_iald F hw_5 dX7_kind_19 ?_
    refine s_goto F 25 dX7_kind_20 (by decide) ?_
    exact s_iret F dX7_kind_25
theorem dX7_as_0 : decode cX7_as 0 = .ok (.aload_n 0, 1) := by decide +kernel
theorem dX7_as_1 : decode cX7_as 1 = .ok (.getfield 33, 3) := by decide +kernel
theorem dX7_as_4 : decode cX7_as 4 = .ok (.iload_n 1, 1) := by decide +kernel
theorem dX7_as_5 : decode cX7_as 5 = .ok (.invokevirtual 165, 3) := by decide +kernel
theorem dX7_as_8 : decode cX7_as 8 = .ok (.ifCond .eq 15, 3) := by decide +kernel
theorem dX7_as_11 : decode cX7_as 11 = .ok (.iload_n 2, 1) := by decide +kernel
theorem dX7_as_12 : decode cX7_as 12 = .ok (.ifCond .lt 11, 3) := by decide +kernel
theorem dX7_as_15 : decode cX7_as 15 = .ok (.iload_n 2, 1) := by decide +kernel
theorem dX7_as_16 : decode cX7_as 16 = .ok (.getstatic 271, 3) := by decide +kernel
theorem dX7_as_19 : decode cX7_as 19 = .ok (.arraylength, 1) := by decide +kernel
theorem dX7_as_20 : decode cX7_as 20 = .ok (.if_icmp .lt 6, 3) := by decide +kernel
theorem dX7_as_23 : decode cX7_as 23 = .ok (.ldc 68, 2) := by decide +kernel
theorem dX7_as_25 : decode cX7_as 25 = .ok (.ireturn, 1) := by decide +kernel
theorem dX7_as_26 : decode cX7_as 26 = .ok (.aload_n 0, 1) := by decide +kernel
theorem dX7_as_27 : decode cX7_as 27 = .ok (.getfield 33, 3) := by decide +kernel
theorem dX7_as_30 : decode cX7_as 30 = .ok (.getfield 268, 3) := by decide +kernel
theorem dX7_as_33 : decode cX7_as 33 = .ok (.iload_n 1, 1) := by decide +kernel
theorem dX7_as_34 : decode cX7_as 34 = .ok (.iaload, 1) := by decide +kernel
theorem dX7_as_35 : decode cX7_as 35 = .ok (.iload_n 2, 1) := by decide +kernel
theorem dX7_as_36 : decode cX7_as 36 = .ok (.invokestatic 274, 3) := by decide +kernel
theorem dX7_as_39 : decode cX7_as 39 = .ok (.ifCond .eq 11, 3) := by decide +kernel
theorem dX7_as_42 : decode cX7_as 42 = .ok (.aload_n 0, 1) := by decide +kernel
theorem dX7_as_43 : decode cX7_as 43 = .ok (.iload_n 1, 1) := by decide +kernel
theorem dX7_as_44 : decode cX7_as 44 = .ok (.invokevirtual 77, 3) := by decide +kernel
theorem dX7_as_47 : decode cX7_as 47 = .ok (.goto 8, 3) := by decide +kernel
theorem dX7_as_50 : decode cX7_as 50 = .ok (.aload_n 0, 1) := by decide +kernel
theorem dX7_as_51 : decode cX7_as 51 = .ok (.iconst 3, 1) := by decide +kernel
theorem dX7_as_52 : decode cX7_as 52 = .ok (.invokevirtual 69, 3) := by decide +kernel
theorem dX7_as_55 : decode cX7_as 55 = .ok (.ireturn, 1) := by decide +kernel
theorem yv_X7_as : YV yX7_as cX7_as 3 (some .int) 2 := ⟨m832, m833, m1, m834, ⟨by decide +kernel, by decide +kernel, by decide +kernel⟩, by decide⟩
noncomputable def f_X7_as (q : Nat) (x1 : Int32) (x2 : Int32) (h : AH) : Option (Int32 × AH) := bd (f_X2_isBoat (q + 17) x1 h) (fun v_3 h_2 => if v_3 = 0 then (some ((-1000001), h_2)) else (if x2 < 0 then (some ((-1000001), h_2)) else (if x2 < 6 then (ck x1 6 (bd (f_X7_isKind (h_2 (q + 17 + 5) (x1 : Int32).toNatClampNeg) x2 h_2) (fun v_7 h_6 => if v_7 = 0 then (bd (f_X7_found q 3 h_6) (fun v_9 h_8 => some (v_9, h_8))) else (bd (f_X7_unfound q x1 h_6) (fun v_11 h_10 => some (v_11, h_10)))))) else (some ((-1000001), h_2)))))
set_option maxRecDepth 20000 in
set_option maxHeartbeats 4000000 in
theorem ct_X7_as (l : Launch) (g : GC) {q : Nat} (hq : (gL g)[q]? = some (.inl 7)) (x1 : Int32) (x2 : Int32) : Ct l yX7_as cX7_as 3 (some .int) 2 [.ref (gad g q), .int x1, .int x2] g mkI (fun h => f_X7_as q x1 x2 h) := by
  refine Ct.of (by decide +kernel) (Nat.le_of_ble_eq_true rfl) (fun z A h _ F => ?_)
  show Snd z 3 g A (QF z g A mkI) 0 [(0, .ref (gad g q)), (1, .int x1), (2, .int x2)] [] h (f_X7_as q x1 x2 h)
  unfold f_X7_as
  refine s_aload_n F dX7_as_0 rfl 0 rfl ?_
  have hw_1 := wf_ref F.2.2.2.2.2.2.1 hq 3 17 (.inl 2) rfl
  refine s_getr F ciX7 3 17 (.inl 2) hq (by decide) rfl rfl m242 dX7_as_1 ?_
  refine s_iload_n F dX7_as_4 rfl 1 rfl ?_
  refine s_callVi (f := fun hh => f_X2_isBoat (q + 17) x1 hh) (As := [.int x1]) F yv_X2_isBoat (ct_X2_isBoat z.2.1 g hw_1 x1) (by decide) m562 hw_1 rfl rfl rfl (Nat.le_of_ble_eq_true rfl) dX7_as_5 (fun v_3 h_2 e_v_3 => ?_)
  refine s_if_eq F 23 dX7_as_8 (by decide) (fun _ => ?_) (fun _ => ?_)
  · refine s_ldc F (v := (-1000001)) dX7_as_23 m280 ?_
    exact s_iret F dX7_as_25
  · refine s_iload_n F dX7_as_11 rfl 2 rfl ?_
    refine s_if_lt F 23 dX7_as_12 (by decide) (fun _ => ?_) (fun _ => ?_)
    · refine s_ldc F (v := (-1000001)) dX7_as_23 m280 ?_
      exact s_iret F dX7_as_25
    · refine s_iload_n F dX7_as_15 rfl 2 rfl ?_
      refine s_gets F 1 (by decide) rfl rfl m835 dX7_as_16 ?_
      refine s_tlen F 1 (by decide) (v := 6) rfl dX7_as_19 ?_
      refine s_icmp_lt F 26 dX7_as_20 (by decide) (fun _ => ?_) (fun _ => ?_)
      · refine s_aload_n F dX7_as_26 rfl 0 rfl ?_
        have hw_4 := wf_ref F.2.2.2.2.2.2.1 hq 3 17 (.inl 2) rfl
        refine s_getr F ciX7 3 17 (.inl 2) hq (by decide) rfl rfl m242 dX7_as_27 ?_
        have hw_5 := wf_ref F.2.2.2.2.2.2.1 hw_4 11 5 (.inr (0, 6)) rfl
        refine s_getrN F ciX2 11 5 (.inr (0, 6)) hw_4 (by decide) rfl rfl (List.mem_of_getElem? (i := 9) rfl) dX7_as_30 ?_
        refine s_iload_n F dX7_as_33 rfl 1 rfl ?_
        refine s_iald F hw_5 dX7_as_34 ?_
        refine s_iload_n F dX7_as_35 rfl 2 rfl ?_
        refine s_callSi (f := fun hh => f_X7_isKind (h_2 (q + 17 + 5) (x1 : Int32).toNatClampNeg) x2 hh) (As := [.int (h_2 (q + 17 + 5) (x1 : Int32).toNatClampNeg), .int x2]) F ys_X7_isKind (ct_X7_isKind z.2.1 g (h_2 (q + 17 + 5) (x1 : Int32).toNatClampNeg) x2) (by decide) m837 rfl rfl (Nat.le_of_ble_eq_true rfl) dX7_as_36 (fun v_7 h_6 e_v_7 => ?_)
        refine s_if_eq F 50 dX7_as_39 (by decide) (fun _ => ?_) (fun _ => ?_)
        · refine s_aload_n F dX7_as_50 rfl 0 rfl ?_
          refine s_iconst F (v := 3) dX7_as_51 (by decide) ?_
          refine s_callVi (f := fun hh => f_X7_found q 3 hh) (As := [.int 3]) F yv_X7_found (ct_X7_found z.2.1 g hq 3) (by decide) m281 hq rfl rfl rfl (Nat.le_of_ble_eq_true rfl) dX7_as_52 (fun v_9 h_8 e_v_9 => ?_)
          exact s_iret F dX7_as_55
        · refine s_aload_n F dX7_as_42 rfl 0 rfl ?_
          refine s_iload_n F dX7_as_43 rfl 1 rfl ?_
          refine s_callVi (f := fun hh => f_X7_unfound q x1 hh) (As := [.int x1]) F yv_X7_unfound (ct_X7_unfound z.2.1 g hq x1) (by decide) m290 hq rfl rfl rfl (Nat.le_of_ble_eq_true rfl) dX7_as_44 (fun v_11 h_10 e_v_11 => ?_)
          refine s_goto F 55 dX7_as_47 (by decide) ?_
          exact s_iret F dX7_as_55
      · refine s_ldc F (v := (-1000001)) dX7_as_23 m280 ?_
        exact s_iret F dX7_as_25
theorem dX7_ask_0 : decode cX7_ask 0 = .ok (.aload_n 0, 1) := by decide +kernel
theorem dX7_ask_1 : decode cX7_ask 1 = .ok (.getfield 33, 3) := by decide +kernel
theorem dX7_ask_4 : decode cX7_ask 4 = .ok (.iload_n 1, 1) := by decide +kernel
theorem dX7_ask_5 : decode cX7_ask 5 = .ok (.invokevirtual 165, 3) := by decide +kernel
theorem dX7_ask_8 : decode cX7_ask 8 = .ok (.ifCond .eq 12, 3) := by decide +kernel
theorem dX7_ask_11 : decode cX7_ask 11 = .ok (.iload_n 2, 1) := by decide +kernel
theorem dX7_ask_12 : decode cX7_ask 12 = .ok (.ifCond .lt 8, 3) := by decide +kernel
theorem dX7_ask_15 : decode cX7_ask 15 = .ok (.iload_n 2, 1) := by decide +kernel
theorem dX7_ask_16 : decode cX7_ask 16 = .ok (.iconst 1, 1) := by decide +kernel
theorem dX7_ask_17 : decode cX7_ask 17 = .ok (.if_icmp .le 6, 3) := by decide +kernel
theorem dX7_ask_20 : decode cX7_ask 20 = .ok (.ldc 68, 2) := by decide +kernel
theorem dX7_ask_22 : decode cX7_ask 22 = .ok (.ireturn, 1) := by decide +kernel
theorem dX7_ask_23 : decode cX7_ask 23 = .ok (.aload_n 0, 1) := by decide +kernel
theorem dX7_ask_24 : decode cX7_ask 24 = .ok (.getfield 60, 3) := by decide +kernel
theorem dX7_ask_27 : decode cX7_ask 27 = .ok (.aload_n 0, 1) := by decide +kernel
theorem dX7_ask_28 : decode cX7_ask 28 = .ok (.getfield 33, 3) := by decide +kernel
theorem dX7_ask_31 : decode cX7_ask 31 = .ok (.iload_n 1, 1) := by decide +kernel
theorem dX7_ask_32 : decode cX7_ask 32 = .ok (.iload_n 2, 1) := by decide +kernel
theorem dX7_ask_33 : decode cX7_ask 33 = .ok (.invokevirtual 277, 3) := by decide +kernel
theorem dX7_ask_36 : decode cX7_ask 36 = .ok (.ireturn, 1) := by decide +kernel
theorem yv_X7_ask : YV yX7_ask cX7_ask 3 (some .int) 2 := ⟨m841, m842, m1, m843, ⟨by decide +kernel, by decide +kernel, by decide +kernel⟩, by decide⟩
noncomputable def f_X7_ask (q : Nat) (x1 : Int32) (x2 : Int32) (h : AH) : Option (Int32 × AH) := bd (f_X2_isBoat (q + 17) x1 h) (fun v_3 h_2 => if v_3 = 0 then (some ((-1000001), h_2)) else (if x2 < 0 then (some ((-1000001), h_2)) else (if x2 ≤ 1 then (bd (f_X1_answer (q + 58) (q + 17) x1 x2 h_2) (fun v_7 h_6 => some (v_7, h_6))) else (some ((-1000001), h_2)))))
set_option maxRecDepth 20000 in
set_option maxHeartbeats 4000000 in
theorem ct_X7_ask (l : Launch) (g : GC) {q : Nat} (hq : (gL g)[q]? = some (.inl 7)) (x1 : Int32) (x2 : Int32) : Ct l yX7_ask cX7_ask 3 (some .int) 22 [.ref (gad g q), .int x1, .int x2] g mkI (fun h => f_X7_ask q x1 x2 h) := by
  refine Ct.of (by decide +kernel) (Nat.le_of_ble_eq_true rfl) (fun z A h _ F => ?_)
  show Snd z 3 g A (QF z g A mkI) 0 [(0, .ref (gad g q)), (1, .int x1), (2, .int x2)] [] h (f_X7_ask q x1 x2 h)
  unfold f_X7_ask
  refine s_aload_n F dX7_ask_0 rfl 0 rfl ?_
  have hw_1 := wf_ref F.2.2.2.2.2.2.1 hq 3 17 (.inl 2) rfl
  refine s_getr F ciX7 3 17 (.inl 2) hq (by decide) rfl rfl m242 dX7_ask_1 ?_
  refine s_iload_n F dX7_ask_4 rfl 1 rfl ?_
  refine s_callVi (f := fun hh => f_X2_isBoat (q + 17) x1 hh) (As := [.int x1]) F yv_X2_isBoat (ct_X2_isBoat z.2.1 g hw_1 x1) (by decide) m562 hw_1 rfl rfl rfl (Nat.le_of_ble_eq_true rfl) dX7_ask_5 (fun v_3 h_2 e_v_3 => ?_)
  refine s_if_eq F 20 dX7_ask_8 (by decide) (fun _ => ?_) (fun _ => ?_)
  · refine s_ldc F (v := (-1000001)) dX7_ask_20 m280 ?_
    exact s_iret F dX7_ask_22
  · refine s_iload_n F dX7_ask_11 rfl 2 rfl ?_
    refine s_if_lt F 20 dX7_ask_12 (by decide) (fun _ => ?_) (fun _ => ?_)
    · refine s_ldc F (v := (-1000001)) dX7_ask_20 m280 ?_
      exact s_iret F dX7_ask_22
    · refine s_iload_n F dX7_ask_15 rfl 2 rfl ?_
      refine s_iconst F (v := 1) dX7_ask_16 (by decide) ?_
      refine s_icmp_le F 23 dX7_ask_17 (by decide) (fun _ => ?_) (fun _ => ?_)
      · refine s_aload_n F dX7_ask_23 rfl 0 rfl ?_
        have hw_4 := wf_ref F.2.2.2.2.2.2.1 hq 8 58 (.inl 1) rfl
        refine s_getr F ciX7 8 58 (.inl 1) hq (by decide) rfl rfl m247 dX7_ask_24 ?_
        refine s_aload_n F dX7_ask_27 rfl 0 rfl ?_
        have hw_5 := wf_ref F.2.2.2.2.2.2.1 hq 3 17 (.inl 2) rfl
        refine s_getr F ciX7 3 17 (.inl 2) hq (by decide) rfl rfl m242 dX7_ask_28 ?_
        refine s_iload_n F dX7_ask_31 rfl 1 rfl ?_
        refine s_iload_n F dX7_ask_32 rfl 2 rfl ?_
        refine s_callVi (f := fun hh => f_X1_answer (q + 58) (q + 17) x1 x2 hh) (As := [.ref (gad g (q + 17)), .int x1, .int x2]) F yv_X1_answer (ct_X1_answer z.2.1 g hw_4 hw_5 x1 x2) (by decide) m844 hw_4 rfl rfl rfl (Nat.le_of_ble_eq_true rfl) dX7_ask_33 (fun v_7 h_6 e_v_7 => ?_)
        exact s_iret F dX7_ask_36
      · refine s_ldc F (v := (-1000001)) dX7_ask_20 m280 ?_
        exact s_iret F dX7_ask_22
theorem dX7_trace_0 : decode cX7_trace 0 = .ok (.aload_n 0, 1) := by decide +kernel
theorem dX7_trace_1 : decode cX7_trace 1 = .ok (.getfield 60, 3) := by decide +kernel
theorem dX7_trace_4 : decode cX7_trace 4 = .ok (.iload_n 1, 1) := by decide +kernel
theorem dX7_trace_5 : decode cX7_trace 5 = .ok (.invokevirtual 280, 3) := by decide +kernel
theorem dX7_trace_8 : decode cX7_trace 8 = .ok (.ireturn, 1) := by decide +kernel
theorem yv_X7_trace : YV yX7_trace cX7_trace 2 (some .int) 1 := ⟨m865, m866, m1, m867, ⟨by decide +kernel, by decide +kernel, by decide +kernel⟩, by decide⟩
noncomputable def f_X7_trace (q : Nat) (x1 : Int32) (h : AH) : Option (Int32 × AH) := bd (f_X1_traceAt (q + 58) x1 h) (fun v_3 h_2 => some (v_3, h_2))
set_option maxRecDepth 20000 in
set_option maxHeartbeats 4000000 in
theorem ct_X7_trace (l : Launch) (g : GC) {q : Nat} (hq : (gL g)[q]? = some (.inl 7)) (x1 : Int32) : Ct l yX7_trace cX7_trace 2 (some .int) 2 [.ref (gad g q), .int x1] g mkI (fun h => f_X7_trace q x1 h) := by
  refine Ct.of (by decide +kernel) (Nat.le_of_ble_eq_true rfl) (fun z A h _ F => ?_)
  show Snd z 2 g A (QF z g A mkI) 0 [(0, .ref (gad g q)), (1, .int x1)] [] h (f_X7_trace q x1 h)
  unfold f_X7_trace
  refine s_aload_n F dX7_trace_0 rfl 0 rfl ?_
  have hw_1 := wf_ref F.2.2.2.2.2.2.1 hq 8 58 (.inl 1) rfl
  refine s_getr F ciX7 8 58 (.inl 1) hq (by decide) rfl rfl m247 dX7_trace_1 ?_
  refine s_iload_n F dX7_trace_4 rfl 1 rfl ?_
  refine s_callVi (f := fun hh => f_X1_traceAt (q + 58) x1 hh) (As := [.int x1]) F yv_X1_traceAt (ct_X1_traceAt z.2.1 g hw_1 x1) (by decide) m868 hw_1 rfl rfl rfl (Nat.le_of_ble_eq_true rfl) dX7_trace_5 (fun v_3 h_2 e_v_3 => ?_)
  exact s_iret F dX7_trace_8
theorem dX7_count_0 : decode cX7_count 0 = .ok (.iload_n 1, 1) := by decide +kernel
theorem dX7_count_1 : decode cX7_count 1 = .ok (.tableswitch 114 0 7 #[47, 55, 63, 71, 79, 87, 98, 106], 47) := by decide +kernel
theorem dX7_count_48 : decode cX7_count 48 = .ok (.aload_n 0, 1) := by decide +kernel
theorem dX7_count_49 : decode cX7_count 49 = .ok (.getfield 10, 3) := by decide +kernel
theorem dX7_count_52 : decode cX7_count 52 = .ok (.invokevirtual 283, 3) := by decide +kernel
theorem dX7_count_55 : decode cX7_count 55 = .ok (.ireturn, 1) := by decide +kernel
theorem dX7_count_56 : decode cX7_count 56 = .ok (.aload_n 0, 1) := by decide +kernel
theorem dX7_count_57 : decode cX7_count 57 = .ok (.getfield 33, 3) := by decide +kernel
theorem dX7_count_60 : decode cX7_count 60 = .ok (.getfield 139, 3) := by decide +kernel
theorem dX7_count_63 : decode cX7_count 63 = .ok (.ireturn, 1) := by decide +kernel
theorem dX7_count_64 : decode cX7_count 64 = .ok (.aload_n 0, 1) := by decide +kernel
theorem dX7_count_65 : decode cX7_count 65 = .ok (.getfield 33, 3) := by decide +kernel
theorem dX7_count_68 : decode cX7_count 68 = .ok (.getfield 199, 3) := by decide +kernel
theorem dX7_count_71 : decode cX7_count 71 = .ok (.ireturn, 1) := by decide +kernel
theorem dX7_count_72 : decode cX7_count 72 = .ok (.aload_n 0, 1) := by decide +kernel
theorem dX7_count_73 : decode cX7_count 73 = .ok (.getfield 33, 3) := by decide +kernel
theorem dX7_count_76 : decode cX7_count 76 = .ok (.getfield 171, 3) := by decide +kernel
theorem dX7_count_79 : decode cX7_count 79 = .ok (.ireturn, 1) := by decide +kernel
theorem dX7_count_80 : decode cX7_count 80 = .ok (.aload_n 0, 1) := by decide +kernel
theorem dX7_count_81 : decode cX7_count 81 = .ok (.getfield 46, 3) := by decide +kernel
theorem dX7_count_84 : decode cX7_count 84 = .ok (.invokevirtual 209, 3) := by decide +kernel
theorem dX7_count_87 : decode cX7_count 87 = .ok (.ireturn, 1) := by decide +kernel
theorem dX7_count_88 : decode cX7_count 88 = .ok (.aload_n 0, 1) := by decide +kernel
theorem dX7_count_89 : decode cX7_count 89 = .ok (.getfield 33, 3) := by decide +kernel
theorem dX7_count_92 : decode cX7_count 92 = .ok (.getfield 225, 3) := by decide +kernel
theorem dX7_count_95 : decode cX7_count 95 = .ok (.invokestatic 286, 3) := by decide +kernel
theorem dX7_count_98 : decode cX7_count 98 = .ok (.ireturn, 1) := by decide +kernel
theorem dX7_count_99 : decode cX7_count 99 = .ok (.aload_n 0, 1) := by decide +kernel
theorem dX7_count_100 : decode cX7_count 100 = .ok (.getfield 33, 3) := by decide +kernel
theorem dX7_count_103 : decode cX7_count 103 = .ok (.getfield 291, 3) := by decide +kernel
theorem dX7_count_106 : decode cX7_count 106 = .ok (.ireturn, 1) := by decide +kernel
theorem dX7_count_107 : decode cX7_count 107 = .ok (.aload_n 0, 1) := by decide +kernel
theorem dX7_count_108 : decode cX7_count 108 = .ok (.getfield 19, 3) := by decide +kernel
theorem dX7_count_111 : decode cX7_count 111 = .ok (.invokevirtual 105, 3) := by decide +kernel
theorem dX7_count_114 : decode cX7_count 114 = .ok (.ireturn, 1) := by decide +kernel
theorem dX7_count_115 : decode cX7_count 115 = .ok (.ldc 68, 2) := by decide +kernel
theorem dX7_count_117 : decode cX7_count 117 = .ok (.ireturn, 1) := by decide +kernel
theorem yv_X7_count : YV yX7_count cX7_count 2 (some .int) 1 := ⟨m874, m875, m1, m876, ⟨by decide +kernel, by decide +kernel, by decide +kernel⟩, by decide⟩
noncomputable def f_X7_count (q : Nat) (x1 : Int32) (h : AH) : Option (Int32 × AH) := if x1 = 0 then (bd (f_X5_present (q + 1) h) (fun v_3 h_2 => some (v_3, h_2))) else (if x1 = 1 then (some (h (q + 17) 1, h)) else (if x1 = 2 then (some (h (q + 17) 2, h)) else (if x1 = 3 then (some (h (q + 17) 3, h)) else (if x1 = 4 then (bd (f_X0_kept (q + 44) h) (fun v_9 h_8 => some (v_9, h_8))) else (if x1 = 5 then (bd (f_J6_bitCount_0f7a4 (h (q + 17) 6) h) (fun v_12 h_11 => some (v_12, h_11))) else (if x1 = 6 then (some (h (q + 17) 4, h)) else (if x1 = 7 then (bd (f_X6_size (q + 5) h) (fun v_16 h_15 => some (v_16, h_15))) else (some ((-1000001), h)))))))))
set_option maxRecDepth 20000 in
set_option maxHeartbeats 4000000 in
theorem ct_X7_count (l : Launch) (g : GC) {q : Nat} (hq : (gL g)[q]? = some (.inl 7)) (x1 : Int32) : Ct l yX7_count cX7_count 2 (some .int) 3 [.ref (gad g q), .int x1] g mkI (fun h => f_X7_count q x1 h) := by
  refine Ct.of (by decide +kernel) (Nat.le_of_ble_eq_true rfl) (fun z A h _ F => ?_)
  show Snd z 2 g A (QF z g A mkI) 0 [(0, .ref (gad g q)), (1, .int x1)] [] h (f_X7_count q x1 h)
  unfold f_X7_count
  refine s_iload_n F dX7_count_0 rfl 1 rfl ?_
  refine s_case 0 ?_ (fun n0 => ?_)
  · refine s_tabIn F (off := 47) 48 dX7_count_1 (by decide) (by decide) rfl (by decide) ?_
    refine s_aload_n F dX7_count_48 rfl 0 rfl ?_
    have hw_1 := wf_ref F.2.2.2.2.2.2.1 hq 0 1 (.inl 5) rfl
    refine s_getr F ciX7 0 1 (.inl 5) hq (by decide) rfl rfl m239 dX7_count_49 ?_
    refine s_callVi (f := fun hh => f_X5_present (q + 1) hh) (As := []) F yv_X5_present (ct_X5_present z.2.1 g hw_1) (by decide) m877 hw_1 rfl rfl rfl (Nat.le_of_ble_eq_true rfl) dX7_count_52 (fun v_3 h_2 e_v_3 => ?_)
    exact s_iret F dX7_count_55
  refine s_case 1 ?_ (fun n1 => ?_)
  · refine s_tabIn F (off := 55) 56 dX7_count_1 (by decide) (by decide) rfl (by decide) ?_
    refine s_aload_n F dX7_count_56 rfl 0 rfl ?_
    have hw_4 := wf_ref F.2.2.2.2.2.2.1 hq 3 17 (.inl 2) rfl
    refine s_getr F ciX7 3 17 (.inl 2) hq (by decide) rfl rfl m242 dX7_count_57 ?_
    refine s_getiN F ciX2 1 hw_4 (by decide) rfl rfl (List.mem_of_getElem? (i := 0) rfl) dX7_count_60 ?_
    exact s_iret F dX7_count_63
  refine s_case 2 ?_ (fun n2 => ?_)
  · refine s_tabIn F (off := 63) 64 dX7_count_1 (by decide) (by decide) rfl (by decide) ?_
    refine s_aload_n F dX7_count_64 rfl 0 rfl ?_
    have hw_5 := wf_ref F.2.2.2.2.2.2.1 hq 3 17 (.inl 2) rfl
    refine s_getr F ciX7 3 17 (.inl 2) hq (by decide) rfl rfl m242 dX7_count_65 ?_
    refine s_getiN F ciX2 2 hw_5 (by decide) rfl rfl (List.mem_of_getElem? (i := 3) rfl) dX7_count_68 ?_
    exact s_iret F dX7_count_71
  refine s_case 3 ?_ (fun n3 => ?_)
  · refine s_tabIn F (off := 71) 72 dX7_count_1 (by decide) (by decide) rfl (by decide) ?_
    refine s_aload_n F dX7_count_72 rfl 0 rfl ?_
    have hw_6 := wf_ref F.2.2.2.2.2.2.1 hq 3 17 (.inl 2) rfl
    refine s_getr F ciX7 3 17 (.inl 2) hq (by decide) rfl rfl m242 dX7_count_73 ?_
    refine s_getiN F ciX2 3 hw_6 (by decide) rfl rfl (List.mem_of_getElem? (i := 2) rfl) dX7_count_76 ?_
    exact s_iret F dX7_count_79
  refine s_case 4 ?_ (fun n4 => ?_)
  · refine s_tabIn F (off := 79) 80 dX7_count_1 (by decide) (by decide) rfl (by decide) ?_
    refine s_aload_n F dX7_count_80 rfl 0 rfl ?_
    have hw_7 := wf_ref F.2.2.2.2.2.2.1 hq 6 44 (.inl 0) rfl
    refine s_getr F ciX7 6 44 (.inl 0) hq (by decide) rfl rfl m245 dX7_count_81 ?_
    refine s_callVi (f := fun hh => f_X0_kept (q + 44) hh) (As := []) F yv_X0_kept (ct_X0_kept z.2.1 g hw_7) (by decide) m655 hw_7 rfl rfl rfl (Nat.le_of_ble_eq_true rfl) dX7_count_84 (fun v_9 h_8 e_v_9 => ?_)
    exact s_iret F dX7_count_87
  refine s_case 5 ?_ (fun n5 => ?_)
  · refine s_tabIn F (off := 87) 88 dX7_count_1 (by decide) (by decide) rfl (by decide) ?_
    refine s_aload_n F dX7_count_88 rfl 0 rfl ?_
    have hw_10 := wf_ref F.2.2.2.2.2.2.1 hq 3 17 (.inl 2) rfl
    refine s_getr F ciX7 3 17 (.inl 2) hq (by decide) rfl rfl m242 dX7_count_89 ?_
    refine s_getiN F ciX2 6 hw_10 (by decide) rfl rfl (List.mem_of_getElem? (i := 8) rfl) dX7_count_92 ?_
    refine s_callSi (f := fun hh => f_J6_bitCount_0f7a4 (h (q + 17) 6) hh) (As := [.int (h (q + 17) 6)]) F ys_J6_bitCount_0f7a4 (ct_J6_bitCount_0f7a4 z.2.1 g (h (q + 17) 6)) (by decide) m882 rfl rfl (Nat.le_of_ble_eq_true rfl) dX7_count_95 (fun v_12 h_11 e_v_12 => ?_)
    exact s_iret F dX7_count_98
  refine s_case 6 ?_ (fun n6 => ?_)
  · refine s_tabIn F (off := 98) 99 dX7_count_1 (by decide) (by decide) rfl (by decide) ?_
    refine s_aload_n F dX7_count_99 rfl 0 rfl ?_
    have hw_13 := wf_ref F.2.2.2.2.2.2.1 hq 3 17 (.inl 2) rfl
    refine s_getr F ciX7 3 17 (.inl 2) hq (by decide) rfl rfl m242 dX7_count_100 ?_
    refine s_getiN F ciX2 4 hw_13 (by decide) rfl rfl (List.mem_of_getElem? (i := 10) rfl) dX7_count_103 ?_
    exact s_iret F dX7_count_106
  refine s_case 7 ?_ (fun n7 => ?_)
  · refine s_tabIn F (off := 106) 107 dX7_count_1 (by decide) (by decide) rfl (by decide) ?_
    refine s_aload_n F dX7_count_107 rfl 0 rfl ?_
    have hw_14 := wf_ref F.2.2.2.2.2.2.1 hq 1 5 (.inl 6) rfl
    refine s_getr F ciX7 1 5 (.inl 6) hq (by decide) rfl rfl m240 dX7_count_108 ?_
    refine s_callVi (f := fun hh => f_X6_size (q + 5) hh) (As := []) F yv_X6_size (ct_X6_size z.2.1 g hw_14) (by decide) m344 hw_14 rfl rfl rfl (Nat.le_of_ble_eq_true rfl) dX7_count_111 (fun v_16 h_15 e_v_16 => ?_)
    exact s_iret F dX7_count_114
  refine s_tabOut F 115 dX7_count_1 (by decide) (s_out 0 7 8 (by decide) (by decide) (by decide) (fun j hj => ?_)) ?_
  · rcases (show j = 0 ∨ j = 1 ∨ j = 2 ∨ j = 3 ∨ j = 4 ∨ j = 5 ∨ j = 6 ∨ j = 7 by omega) with rfl | rfl | rfl | rfl | rfl | rfl | rfl | rfl
    · exact n0
    · exact n1
    · exact n2
    · exact n3
    · exact n4
    · exact n5
    · exact n6
    · exact n7
  refine s_ldc F (v := (-1000001)) dX7_count_115 m280 ?_
  exact s_iret F dX7_count_117
theorem dX7_status_0 : decode cX7_status 0 = .ok (.aload_n 0, 1) := by decide +kernel
theorem dX7_status_1 : decode cX7_status 1 = .ok (.getfield 294, 3) := by decide +kernel
theorem dX7_status_4 : decode cX7_status 4 = .ok (.ireturn, 1) := by decide +kernel
theorem yv_X7_status : YV yX7_status cX7_status 1 (some .int) 0 := ⟨m884, m885, m1, m886, ⟨by decide +kernel, by decide +kernel, by decide +kernel⟩, by decide⟩
noncomputable def f_X7_status (q : Nat) (h : AH) : Option (Int32 × AH) := some (h q 10, h)
set_option maxRecDepth 20000 in
set_option maxHeartbeats 4000000 in
theorem ct_X7_status (l : Launch) (g : GC) {q : Nat} (hq : (gL g)[q]? = some (.inl 7)) : Ct l yX7_status cX7_status 1 (some .int) 1 [.ref (gad g q)] g mkI (fun h => f_X7_status q h) := by
  refine Ct.of (by decide +kernel) (Nat.le_of_ble_eq_true rfl) (fun z A h _ F => ?_)
  show Snd z 1 g A (QF z g A mkI) 0 [(0, .ref (gad g q))] [] h (f_X7_status q h)
  unfold f_X7_status
  refine s_aload_n F dX7_status_0 rfl 0 rfl ?_
  refine s_geti F ciX7 10 hq (by decide) rfl rfl m249 dX7_status_1 ?_
  exact s_iret F dX7_status_4
