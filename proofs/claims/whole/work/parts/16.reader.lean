theorem dX4_result_0 : decode cX4_result 0 = .ok (.aload_n 0, 1) := by decide +kernel
theorem dX4_result_1 : decode cX4_result 1 = .ok (.getfield 12, 3) := by decide +kernel
theorem dX4_result_4 : decode cX4_result 4 = .ok (.areturn, 1) := by decide +kernel
theorem yv_X4_result : YV yX4_result cX4_result 1 (some (.object "ArchTrades$Bridge")) 0 := ⟨m511, m512, m4, m513, ⟨by decide +kernel, by decide +kernel, by decide +kernel⟩, by decide⟩
noncomputable def f_X4_result (q : Nat) (h : AH) : Option (Nat × AH) := some ((q + 1), h)
set_option maxRecDepth 20000 in
set_option maxHeartbeats 4000000 in
theorem ct_X4_result (l : Launch) (g : GC) {q : Nat} (hq : (gL g)[q]? = some (.inl 4)) : Ct l yX4_result cX4_result 1 (some (.object "ArchTrades$Bridge")) 1 [.ref (gad g q)] g (mkR g) (fun h => f_X4_result q h) := by
  refine Ct.of (by decide +kernel) (Nat.le_of_ble_eq_true rfl) (fun z A h _ F => ?_)
  show Snd z 1 g A (QF z g A (mkR g)) 0 [(0, .ref (gad g q))] [] h (f_X4_result q h)
  unfold f_X4_result
  refine s_aload_n F dX4_result_0 rfl 0 rfl ?_
  have hw_1 := wf_ref F.2.2.2.2.2.2.1 hq 0 1 (.inl 2) rfl
  refine s_getr F ciX4 0 1 (.inl 2) hq (by decide) rfl rfl m152 dX4_result_1 ?_
  exact s_aret F dX4_result_4
theorem ok_X4_result {La : List Sh} (w : wfL La) {q : Nat} (hq : La[q]? = some (.inl 4)) {h h2 : AH} {r : Nat} (e : f_X4_result q h = some (r, h2)) : La[r]? = some (.inl 2) := by
  unfold f_X4_result at e
  obtain ⟨rfl, -⟩ := Prod.mk.inj (Option.some.inj e)
  exact wf_ref w hq 0 1 (.inl 2) rfl
theorem dX4_faultNumber_0 : decode cX4_faultNumber 0 = .ok (.aload_n 0, 1) := by decide +kernel
theorem dX4_faultNumber_1 : decode cX4_faultNumber 1 = .ok (.getfield 18, 3) := by decide +kernel
theorem dX4_faultNumber_4 : decode cX4_faultNumber 4 = .ok (.ireturn, 1) := by decide +kernel
theorem yv_X4_faultNumber : YV yX4_faultNumber cX4_faultNumber 1 (some .int) 0 := ⟨m506, m507, m4, m508, ⟨by decide +kernel, by decide +kernel, by decide +kernel⟩, by decide⟩
noncomputable def f_X4_faultNumber (q : Nat) (h : AH) : Option (Int32 × AH) := some (h q 1, h)
set_option maxRecDepth 20000 in
set_option maxHeartbeats 4000000 in
theorem ct_X4_faultNumber (l : Launch) (g : GC) {q : Nat} (hq : (gL g)[q]? = some (.inl 4)) : Ct l yX4_faultNumber cX4_faultNumber 1 (some .int) 1 [.ref (gad g q)] g mkI (fun h => f_X4_faultNumber q h) := by
  refine Ct.of (by decide +kernel) (Nat.le_of_ble_eq_true rfl) (fun z A h _ F => ?_)
  show Snd z 1 g A (QF z g A mkI) 0 [(0, .ref (gad g q))] [] h (f_X4_faultNumber q h)
  unfold f_X4_faultNumber
  refine s_aload_n F dX4_faultNumber_0 rfl 0 rfl ?_
  refine s_geti F ciX4 1 hq (by decide) rfl rfl m153 dX4_faultNumber_1 ?_
  exact s_iret F dX4_faultNumber_4
theorem dX4_faulty_0 : decode cX4_faulty 0 = .ok (.aload_n 0, 1) := by decide +kernel
theorem dX4_faulty_1 : decode cX4_faulty 1 = .ok (.iload_n 1, 1) := by decide +kernel
theorem dX4_faulty_2 : decode cX4_faulty 2 = .ok (.putfield 18, 3) := by decide +kernel
theorem dX4_faulty_5 : decode cX4_faulty 5 = .ok (.iconst 0, 1) := by decide +kernel
theorem dX4_faulty_6 : decode cX4_faulty 6 = .ok (.ireturn, 1) := by decide +kernel
theorem yv_X4_faulty : YV yX4_faulty cX4_faulty 2 (some .boolean) 1 := ⟨m437, ms3, m4, m438, ⟨by decide +kernel, by decide +kernel, by decide +kernel⟩, by decide⟩
noncomputable def f_X4_faulty (q : Nat) (x1 : Int32) (h : AH) : Option (Int32 × AH) := lt (hset h q 1 x1) (fun h_1 => some (0, h_1))
set_option maxRecDepth 20000 in
set_option maxHeartbeats 4000000 in
theorem ct_X4_faulty (l : Launch) (g : GC) {q : Nat} (hq : (gL g)[q]? = some (.inl 4)) (x1 : Int32) : Ct l yX4_faulty cX4_faulty 2 (some .boolean) 1 [.ref (gad g q), .int x1] g mkI (fun h => f_X4_faulty q x1 h) := by
  refine Ct.of (by decide +kernel) (Nat.le_of_ble_eq_true rfl) (fun z A h _ F => ?_)
  show Snd z 2 g A (QF z g A mkI) 0 [(0, .ref (gad g q)), (1, .int x1)] [] h (f_X4_faulty q x1 h)
  unfold f_X4_faulty
  refine s_aload_n F dX4_faulty_0 rfl 0 rfl ?_
  refine s_iload_n F dX4_faulty_1 rfl 1 rfl ?_
  refine s_put F ciX4 (k := 1) hq (by decide) rfl rfl rfl rfl m153 dX4_faulty_2 ?_
  refine s_letH (fun h_1 => ?_)
  refine s_iconst F (v := 0) dX4_faulty_5 (by decide) ?_
  exact s_zret1 F (by decide) dX4_faulty_6
theorem dX6_isNumber_0 : decode cX6_isNumber 0 = .ok (.aload_n 0, 1) := by decide +kernel
theorem dX6_isNumber_1 : decode cX6_isNumber 1 = .ok (.getfield 34, 3) := by decide +kernel
theorem dX6_isNumber_4 : decode cX6_isNumber 4 = .ok (.iconst 2, 1) := by decide +kernel
theorem dX6_isNumber_5 : decode cX6_isNumber 5 = .ok (.if_icmp .ne 7, 3) := by decide +kernel
theorem dX6_isNumber_8 : decode cX6_isNumber 8 = .ok (.iconst 1, 1) := by decide +kernel
theorem dX6_isNumber_9 : decode cX6_isNumber 9 = .ok (.goto 4, 3) := by decide +kernel
theorem dX6_isNumber_12 : decode cX6_isNumber 12 = .ok (.iconst 0, 1) := by decide +kernel
theorem dX6_isNumber_13 : decode cX6_isNumber 13 = .ok (.ireturn, 1) := by decide +kernel
theorem yv_X6_isNumber : YV yX6_isNumber cX6_isNumber 1 (some .boolean) 0 := ⟨m445, m446, m3, m447, ⟨by decide +kernel, by decide +kernel, by decide +kernel⟩, by decide⟩
noncomputable def f_X6_isNumber (q : Nat) (h : AH) : Option (Int32 × AH) := if (h q 2) = 2 then (some (1, h)) else (some (0, h))
set_option maxRecDepth 20000 in
set_option maxHeartbeats 4000000 in
theorem ct_X6_isNumber (l : Launch) (g : GC) {q : Nat} (hq : (gL g)[q]? = some (.inl 6)) : Ct l yX6_isNumber cX6_isNumber 1 (some .boolean) 1 [.ref (gad g q)] g mkI (fun h => f_X6_isNumber q h) := by
  refine Ct.of (by decide +kernel) (Nat.le_of_ble_eq_true rfl) (fun z A h _ F => ?_)
  show Snd z 1 g A (QF z g A mkI) 0 [(0, .ref (gad g q))] [] h (f_X6_isNumber q h)
  unfold f_X6_isNumber
  refine s_aload_n F dX6_isNumber_0 rfl 0 rfl ?_
  refine s_geti F ciX6 2 hq (by decide) rfl rfl m51 dX6_isNumber_1 ?_
  refine s_iconst F (v := 2) dX6_isNumber_4 (by decide) ?_
  refine s_icmp_ne F 12 dX6_isNumber_5 (by decide) (fun _ => ?_) (fun _ => ?_)
  · refine s_iconst F (v := 0) dX6_isNumber_12 (by decide) ?_
    exact s_zret1 F (by decide) dX6_isNumber_13
  · refine s_iconst F (v := 1) dX6_isNumber_8 (by decide) ?_
    refine s_goto F 13 dX6_isNumber_9 (by decide) ?_
    exact s_zret1 F (by decide) dX6_isNumber_13
theorem dX6_numberTold_0 : decode cX6_numberTold 0 = .ok (.iconst 0, 1) := by decide +kernel
theorem dX6_numberTold_1 : decode cX6_numberTold 1 = .ok (.istore_n 1, 1) := by decide +kernel
theorem dX6_numberTold_2 : decode cX6_numberTold 2 = .ok (.aload_n 0, 1) := by decide +kernel
theorem dX6_numberTold_3 : decode cX6_numberTold 3 = .ok (.getfield 17, 3) := by decide +kernel
theorem dX6_numberTold_6 : decode cX6_numberTold 6 = .ok (.istore_n 2, 1) := by decide +kernel
theorem dX6_numberTold_7 : decode cX6_numberTold 7 = .ok (.iload_n 2, 1) := by decide +kernel
theorem dX6_numberTold_8 : decode cX6_numberTold 8 = .ok (.aload_n 0, 1) := by decide +kernel
theorem dX6_numberTold_9 : decode cX6_numberTold 9 = .ok (.getfield 20, 3) := by decide +kernel
theorem dX6_numberTold_12 : decode cX6_numberTold 12 = .ok (.if_icmp .ge 34, 3) := by decide +kernel
theorem dX6_numberTold_15 : decode cX6_numberTold 15 = .ok (.iload_n 2, 1) := by decide +kernel
theorem dX6_numberTold_16 : decode cX6_numberTold 16 = .ok (.aload_n 0, 1) := by decide +kernel
theorem dX6_numberTold_17 : decode cX6_numberTold 17 = .ok (.getfield 17, 3) := by decide +kernel
theorem dX6_numberTold_20 : decode cX6_numberTold 20 = .ok (.iconst 3, 1) := by decide +kernel
theorem dX6_numberTold_21 : decode cX6_numberTold 21 = .ok (.iadd, 1) := by decide +kernel
theorem dX6_numberTold_22 : decode cX6_numberTold 22 = .ok (.if_icmp .ge 24, 3) := by decide +kernel
theorem dX6_numberTold_25 : decode cX6_numberTold 25 = .ok (.bipush 10, 2) := by decide +kernel
theorem dX6_numberTold_27 : decode cX6_numberTold 27 = .ok (.iload_n 1, 1) := by decide +kernel
theorem dX6_numberTold_28 : decode cX6_numberTold 28 = .ok (.imul, 1) := by decide +kernel
theorem dX6_numberTold_29 : decode cX6_numberTold 29 = .ok (.aload_n 0, 1) := by decide +kernel
theorem dX6_numberTold_30 : decode cX6_numberTold 30 = .ok (.getfield 9, 3) := by decide +kernel
theorem dX6_numberTold_33 : decode cX6_numberTold 33 = .ok (.iload_n 2, 1) := by decide +kernel
theorem dX6_numberTold_34 : decode cX6_numberTold 34 = .ok (.baload, 1) := by decide +kernel
theorem dX6_numberTold_35 : decode cX6_numberTold 35 = .ok (.iadd, 1) := by decide +kernel
theorem dX6_numberTold_36 : decode cX6_numberTold 36 = .ok (.bipush 48, 2) := by decide +kernel
theorem dX6_numberTold_38 : decode cX6_numberTold 38 = .ok (.isub, 1) := by decide +kernel
theorem dX6_numberTold_39 : decode cX6_numberTold 39 = .ok (.istore_n 1, 1) := by decide +kernel
theorem dX6_numberTold_40 : decode cX6_numberTold 40 = .ok (.iinc 2 1, 3) := by decide +kernel
theorem dX6_numberTold_43 : decode cX6_numberTold 43 = .ok (.goto (-36), 3) := by decide +kernel
theorem dX6_numberTold_46 : decode cX6_numberTold 46 = .ok (.iload_n 1, 1) := by decide +kernel
theorem dX6_numberTold_47 : decode cX6_numberTold 47 = .ok (.ireturn, 1) := by decide +kernel
theorem yv_X6_numberTold : YV yX6_numberTold cX6_numberTold 3 (some .int) 0 := ⟨m449, m450, m3, m451, ⟨by decide +kernel, by decide +kernel, by decide +kernel⟩, by decide⟩
noncomputable def f_X6_numberTold_7 (q : Nat) : Nat → Int32 → Int32 → AH → Option (Int32 × AH)
  | 0, _, _, _ => none
  | n + 1, x1, x2, h => if (h q 4) ≤ x2 then (some (x1, h)) else (if ((h q 3) + 3) ≤ x2 then (some (x1, h)) else (ck x2 500 (lt ((((10 * x1) + (h (q + 1) (x2 : Int32).toNatClampNeg)) - 48)) (fun v_2 => lt (x2 + 1) (fun v_3 => (f_X6_numberTold_7 q n) v_2 v_3 h)))))
set_option maxRecDepth 20000 in
set_option maxHeartbeats 4000000 in
theorem t_X6_numberTold_7 {z : MC} {g : GC} {A : Nat → Prop} (F : Fx z cX6_numberTold 3 RX6 (some .int) 1 g A) {q : Nat} (hq : (gL g)[q]? = some (.inl 6)) : ∀ (n : Nat) (x1 : Int32) (x2 : Int32) (h : AH), Snd z 3 g A (QF z g A mkI) 7 [(0, .ref (gad g q)), (1, .int x1), (2, .int x2)] [] h (f_X6_numberTold_7 q n x1 x2 h) := by
  intro n
  induction n with
  | zero => intros; exact s_none
  | succ n ih =>
    intro x1 x2 h
    unfold f_X6_numberTold_7
    refine s_iload_n F dX6_numberTold_7 rfl 2 rfl ?_
    refine s_aload_n F dX6_numberTold_8 rfl 0 rfl ?_
    refine s_geti F ciX6 4 hq (by decide) rfl rfl m53 dX6_numberTold_9 ?_
    refine s_icmp_ge F 46 dX6_numberTold_12 (by decide) (fun _ => ?_) (fun _ => ?_)
    · refine s_iload_n F dX6_numberTold_46 rfl 1 rfl ?_
      exact s_iret F dX6_numberTold_47
    · refine s_iload_n F dX6_numberTold_15 rfl 2 rfl ?_
      refine s_aload_n F dX6_numberTold_16 rfl 0 rfl ?_
      refine s_geti F ciX6 3 hq (by decide) rfl rfl m52 dX6_numberTold_17 ?_
      refine s_iconst F (v := 3) dX6_numberTold_20 (by decide) ?_
      refine s_iadd F dX6_numberTold_21 ?_
      refine s_icmp_ge F 46 dX6_numberTold_22 (by decide) (fun _ => ?_) (fun _ => ?_)
      · refine s_iload_n F dX6_numberTold_46 rfl 1 rfl ?_
        exact s_iret F dX6_numberTold_47
      · refine s_bipush F (v := 10) dX6_numberTold_25 (by decide) ?_
        refine s_iload_n F dX6_numberTold_27 rfl 1 rfl ?_
        refine s_imul F dX6_numberTold_28 ?_
        refine s_aload_n F dX6_numberTold_29 rfl 0 rfl ?_
        have hw_1 := wf_ref F.2.2.2.2.2.2.1 hq 0 1 (.inr (1, 500)) rfl
        refine s_getr F ciX6 0 1 (.inr (1, 500)) hq (by decide) rfl rfl m49 dX6_numberTold_30 ?_
        refine s_iload_n F dX6_numberTold_33 rfl 2 rfl ?_
        refine s_bald F hw_1 dX6_numberTold_34 ?_
        refine s_iadd F dX6_numberTold_35 ?_
        refine s_bipush F (v := 48) dX6_numberTold_36 (by decide) ?_
        refine s_isub F dX6_numberTold_38 ?_
        refine s_leti (fun v_2 => ?_)
        refine s_istore_n F (lv' := [(1, .int v_2), (0, .ref (gad g q)), (2, .int x2)]) dX6_numberTold_39 rfl (by decide) rfl ?_
        refine s_iincv F dX6_numberTold_40 2 rfl (by decide) (c := 1) (by decide) (fun v_3 => ?_)
        refine s_lv (lv' := [(2, .int v_3), (1, .int v_2), (0, .ref (gad g q))]) rfl ?_
        refine s_goto F 7 dX6_numberTold_43 (by decide) ?_
        exact s_sub [2, 1, 0] rfl (ih v_2 v_3 h)
noncomputable def f_X6_numberTold (q : Nat) (h : AH) : Option (Int32 × AH) := lt (h q 3) (fun v_1 => f_X6_numberTold_7 q fu 0 v_1 h)
set_option maxRecDepth 20000 in
set_option maxHeartbeats 4000000 in
theorem ct_X6_numberTold (l : Launch) (g : GC) {q : Nat} (hq : (gL g)[q]? = some (.inl 6)) : Ct l yX6_numberTold cX6_numberTold 3 (some .int) 1 [.ref (gad g q)] g mkI (fun h => f_X6_numberTold q h) := by
  refine Ct.of (by decide +kernel) (Nat.le_of_ble_eq_true rfl) (fun z A h _ F => ?_)
  show Snd z 3 g A (QF z g A mkI) 0 [(0, .ref (gad g q))] [] h (f_X6_numberTold q h)
  unfold f_X6_numberTold
  refine s_iconst F (v := 0) dX6_numberTold_0 (by decide) ?_
  refine s_istore_n F (lv' := [(1, .int 0), (0, .ref (gad g q))]) dX6_numberTold_1 rfl (by decide) rfl ?_
  refine s_aload_n F dX6_numberTold_2 rfl 1 rfl ?_
  refine s_geti F ciX6 3 hq (by decide) rfl rfl m52 dX6_numberTold_3 ?_
  refine s_leti (fun v_1 => ?_)
  refine s_istore_n F (lv' := [(2, .int v_1), (1, .int 0), (0, .ref (gad g q))]) dX6_numberTold_6 rfl (by decide) rfl ?_
  exact s_sub [2, 1, 0] rfl (t_X6_numberTold_7 F hq fu 0 v_1 h)
theorem dX6_isBlank_0 : decode cX6_isBlank 0 = .ok (.iload_n 0, 1) := by decide +kernel
theorem dX6_isBlank_1 : decode cX6_isBlank 1 = .ok (.bipush 32, 2) := by decide +kernel
theorem dX6_isBlank_3 : decode cX6_isBlank 3 = .ok (.if_icmp .eq 9, 3) := by decide +kernel
theorem dX6_isBlank_6 : decode cX6_isBlank 6 = .ok (.iload_n 0, 1) := by decide +kernel
theorem dX6_isBlank_7 : decode cX6_isBlank 7 = .ok (.bipush 10, 2) := by decide +kernel
theorem dX6_isBlank_9 : decode cX6_isBlank 9 = .ok (.if_icmp .ne 7, 3) := by decide +kernel
theorem dX6_isBlank_12 : decode cX6_isBlank 12 = .ok (.iconst 1, 1) := by decide +kernel
theorem dX6_isBlank_13 : decode cX6_isBlank 13 = .ok (.goto 4, 3) := by decide +kernel
theorem dX6_isBlank_16 : decode cX6_isBlank 16 = .ok (.iconst 0, 1) := by decide +kernel
theorem dX6_isBlank_17 : decode cX6_isBlank 17 = .ok (.ireturn, 1) := by decide +kernel
theorem ys_X6_isBlank : YS yX6_isBlank cX6_isBlank 1 (some .boolean) 1 := ⟨m373, m3, m374, ⟨by decide +kernel, by decide +kernel, by decide +kernel⟩, by decide⟩
noncomputable def f_X6_isBlank (x0 : Int32) (h : AH) : Option (Int32 × AH) := if x0 = 32 then (some (1, h)) else (if x0 = 10 then (some (1, h)) else (some (0, h)))
set_option maxRecDepth 20000 in
set_option maxHeartbeats 4000000 in
theorem ct_X6_isBlank (l : Launch) (g : GC) (x0 : Int32) : Ct l yX6_isBlank cX6_isBlank 1 (some .boolean) 1 [.int x0] g mkI (fun h => f_X6_isBlank x0 h) := by
  refine Ct.of (by decide +kernel) (Nat.le_of_ble_eq_true rfl) (fun z A h _ F => ?_)
  show Snd z 1 g A (QF z g A mkI) 0 [(0, .int x0)] [] h (f_X6_isBlank x0 h)
  unfold f_X6_isBlank
  refine s_iload_n F dX6_isBlank_0 rfl 0 rfl ?_
  refine s_bipush F (v := 32) dX6_isBlank_1 (by decide) ?_
  refine s_icmp_eq F 12 dX6_isBlank_3 (by decide) (fun _ => ?_) (fun _ => ?_)
  · refine s_iconst F (v := 1) dX6_isBlank_12 (by decide) ?_
    refine s_goto F 17 dX6_isBlank_13 (by decide) ?_
    exact s_zret1 F (by decide) dX6_isBlank_17
  · refine s_iload_n F dX6_isBlank_6 rfl 0 rfl ?_
    refine s_bipush F (v := 10) dX6_isBlank_7 (by decide) ?_
    refine s_icmp_ne F 16 dX6_isBlank_9 (by decide) (fun _ => ?_) (fun _ => ?_)
    · refine s_iconst F (v := 0) dX6_isBlank_16 (by decide) ?_
      exact s_zret1 F (by decide) dX6_isBlank_17
    · refine s_iconst F (v := 1) dX6_isBlank_12 (by decide) ?_
      refine s_goto F 17 dX6_isBlank_13 (by decide) ?_
      exact s_zret1 F (by decide) dX6_isBlank_17
theorem dX6_sortOf_0 : decode cX6_sortOf 0 = .ok (.iload_n 0, 1) := by decide +kernel
theorem dX6_sortOf_1 : decode cX6_sortOf 1 = .ok (.bipush 97, 2) := by decide +kernel
theorem dX6_sortOf_3 : decode cX6_sortOf 3 = .ok (.if_icmp .lt 11, 3) := by decide +kernel
theorem dX6_sortOf_6 : decode cX6_sortOf 6 = .ok (.iload_n 0, 1) := by decide +kernel
theorem dX6_sortOf_7 : decode cX6_sortOf 7 = .ok (.bipush 122, 2) := by decide +kernel
theorem dX6_sortOf_9 : decode cX6_sortOf 9 = .ok (.if_icmp .gt 5, 3) := by decide +kernel
theorem dX6_sortOf_12 : decode cX6_sortOf 12 = .ok (.iconst 1, 1) := by decide +kernel
theorem dX6_sortOf_13 : decode cX6_sortOf 13 = .ok (.ireturn, 1) := by decide +kernel
theorem dX6_sortOf_14 : decode cX6_sortOf 14 = .ok (.iload_n 0, 1) := by decide +kernel
theorem dX6_sortOf_15 : decode cX6_sortOf 15 = .ok (.bipush 48, 2) := by decide +kernel
theorem dX6_sortOf_17 : decode cX6_sortOf 17 = .ok (.if_icmp .lt 11, 3) := by decide +kernel
theorem dX6_sortOf_20 : decode cX6_sortOf 20 = .ok (.iload_n 0, 1) := by decide +kernel
theorem dX6_sortOf_21 : decode cX6_sortOf 21 = .ok (.bipush 57, 2) := by decide +kernel
theorem dX6_sortOf_23 : decode cX6_sortOf 23 = .ok (.if_icmp .gt 5, 3) := by decide +kernel
theorem dX6_sortOf_26 : decode cX6_sortOf 26 = .ok (.iconst 2, 1) := by decide +kernel
theorem dX6_sortOf_27 : decode cX6_sortOf 27 = .ok (.ireturn, 1) := by decide +kernel
theorem dX6_sortOf_28 : decode cX6_sortOf 28 = .ok (.iload_n 0, 1) := by decide +kernel
theorem dX6_sortOf_29 : decode cX6_sortOf 29 = .ok (.bipush 59, 2) := by decide +kernel
theorem dX6_sortOf_31 : decode cX6_sortOf 31 = .ok (.if_icmp .ne 7, 3) := by decide +kernel
theorem dX6_sortOf_34 : decode cX6_sortOf 34 = .ok (.iconst 3, 1) := by decide +kernel
theorem dX6_sortOf_35 : decode cX6_sortOf 35 = .ok (.goto 4, 3) := by decide +kernel
theorem dX6_sortOf_38 : decode cX6_sortOf 38 = .ok (.iconst 0, 1) := by decide +kernel
theorem dX6_sortOf_39 : decode cX6_sortOf 39 = .ok (.ireturn, 1) := by decide +kernel
theorem ys_X6_sortOf : YS yX6_sortOf cX6_sortOf 1 (some .int) 1 := ⟨m376, m3, m377, ⟨by decide +kernel, by decide +kernel, by decide +kernel⟩, by decide⟩
noncomputable def f_X6_sortOf_28 (x0 : Int32) (h : AH) : Option (Int32 × AH) := if x0 = 59 then (some (3, h)) else (some (0, h))
set_option maxRecDepth 20000 in
set_option maxHeartbeats 4000000 in
theorem t_X6_sortOf_28 {z : MC} {g : GC} {A : Nat → Prop} (F : Fx z cX6_sortOf 1 RX6 (some .int) 1 g A)  : ∀ (x0 : Int32) (h : AH), Snd z 1 g A (QF z g A mkI) 28 [(0, .int x0)] [] h (f_X6_sortOf_28  x0 h) := by
  intro x0 h
  unfold f_X6_sortOf_28
  refine s_iload_n F dX6_sortOf_28 rfl 0 rfl ?_
  refine s_bipush F (v := 59) dX6_sortOf_29 (by decide) ?_
  refine s_icmp_ne F 38 dX6_sortOf_31 (by decide) (fun _ => ?_) (fun _ => ?_)
  · refine s_iconst F (v := 0) dX6_sortOf_38 (by decide) ?_
    exact s_iret F dX6_sortOf_39
  · refine s_iconst F (v := 3) dX6_sortOf_34 (by decide) ?_
    refine s_goto F 39 dX6_sortOf_35 (by decide) ?_
    exact s_iret F dX6_sortOf_39
noncomputable def f_X6_sortOf_14 (x0 : Int32) (h : AH) : Option (Int32 × AH) := if x0 < 48 then (f_X6_sortOf_28  x0 h) else (if (57 : Int32) < x0 then (f_X6_sortOf_28  x0 h) else (some (2, h)))
set_option maxRecDepth 20000 in
set_option maxHeartbeats 4000000 in
theorem t_X6_sortOf_14 {z : MC} {g : GC} {A : Nat → Prop} (F : Fx z cX6_sortOf 1 RX6 (some .int) 1 g A)  : ∀ (x0 : Int32) (h : AH), Snd z 1 g A (QF z g A mkI) 14 [(0, .int x0)] [] h (f_X6_sortOf_14  x0 h) := by
  intro x0 h
  unfold f_X6_sortOf_14
  refine s_iload_n F dX6_sortOf_14 rfl 0 rfl ?_
  refine s_bipush F (v := 48) dX6_sortOf_15 (by decide) ?_
  refine s_icmp_lt F 28 dX6_sortOf_17 (by decide) (fun _ => ?_) (fun _ => ?_)
  · exact s_sub [0] rfl (t_X6_sortOf_28 F  x0 h)
  · refine s_iload_n F dX6_sortOf_20 rfl 0 rfl ?_
    refine s_bipush F (v := 57) dX6_sortOf_21 (by decide) ?_
    refine s_icmp_gt F 28 dX6_sortOf_23 (by decide) (fun _ => ?_) (fun _ => ?_)
    · exact s_sub [0] rfl (t_X6_sortOf_28 F  x0 h)
    · refine s_iconst F (v := 2) dX6_sortOf_26 (by decide) ?_
      exact s_iret F dX6_sortOf_27
noncomputable def f_X6_sortOf (x0 : Int32) (h : AH) : Option (Int32 × AH) := if x0 < 97 then (f_X6_sortOf_14  x0 h) else (if (122 : Int32) < x0 then (f_X6_sortOf_14  x0 h) else (some (1, h)))
set_option maxRecDepth 20000 in
set_option maxHeartbeats 4000000 in
theorem ct_X6_sortOf (l : Launch) (g : GC) (x0 : Int32) : Ct l yX6_sortOf cX6_sortOf 1 (some .int) 1 [.int x0] g mkI (fun h => f_X6_sortOf x0 h) := by
  refine Ct.of (by decide +kernel) (Nat.le_of_ble_eq_true rfl) (fun z A h _ F => ?_)
  show Snd z 1 g A (QF z g A mkI) 0 [(0, .int x0)] [] h (f_X6_sortOf x0 h)
  unfold f_X6_sortOf
  refine s_iload_n F dX6_sortOf_0 rfl 0 rfl ?_
  refine s_bipush F (v := 97) dX6_sortOf_1 (by decide) ?_
  refine s_icmp_lt F 14 dX6_sortOf_3 (by decide) (fun _ => ?_) (fun _ => ?_)
  · exact s_sub [0] rfl (t_X6_sortOf_14 F  x0 h)
  · refine s_iload_n F dX6_sortOf_6 rfl 0 rfl ?_
    refine s_bipush F (v := 122) dX6_sortOf_7 (by decide) ?_
    refine s_icmp_gt F 14 dX6_sortOf_9 (by decide) (fun _ => ?_) (fun _ => ?_)
    · exact s_sub [0] rfl (t_X6_sortOf_14 F  x0 h)
    · refine s_iconst F (v := 1) dX6_sortOf_12 (by decide) ?_
      exact s_iret F dX6_sortOf_13
theorem dX6_step_0 : decode cX6_step 0 = .ok (.aload_n 0, 1) := by decide +kernel
theorem dX6_step_1 : decode cX6_step 1 = .ok (.aload_n 0, 1) := by decide +kernel
theorem dX6_step_2 : decode cX6_step 2 = .ok (.getfield 20, 3) := by decide +kernel
theorem dX6_step_5 : decode cX6_step 5 = .ok (.putfield 17, 3) := by decide +kernel
theorem dX6_step_8 : decode cX6_step 8 = .ok (.aload_n 0, 1) := by decide +kernel
theorem dX6_step_9 : decode cX6_step 9 = .ok (.getfield 17, 3) := by decide +kernel
theorem dX6_step_12 : decode cX6_step 12 = .ok (.aload_n 0, 1) := by decide +kernel
theorem dX6_step_13 : decode cX6_step 13 = .ok (.getfield 13, 3) := by decide +kernel
theorem dX6_step_16 : decode cX6_step 16 = .ok (.if_icmp .ge 31, 3) := by decide +kernel
theorem dX6_step_19 : decode cX6_step 19 = .ok (.aload_n 0, 1) := by decide +kernel
theorem dX6_step_20 : decode cX6_step 20 = .ok (.getfield 9, 3) := by decide +kernel
theorem dX6_step_23 : decode cX6_step 23 = .ok (.aload_n 0, 1) := by decide +kernel
theorem dX6_step_24 : decode cX6_step 24 = .ok (.getfield 17, 3) := by decide +kernel
theorem dX6_step_27 : decode cX6_step 27 = .ok (.baload, 1) := by decide +kernel
theorem dX6_step_28 : decode cX6_step 28 = .ok (.invokestatic 26, 3) := by decide +kernel
theorem dX6_step_31 : decode cX6_step 31 = .ok (.ifCond .eq 16, 3) := by decide +kernel
theorem dX6_step_34 : decode cX6_step 34 = .ok (.aload_n 0, 1) := by decide +kernel
theorem dX6_step_35 : decode cX6_step 35 = .ok (.dup, 1) := by decide +kernel
theorem dX6_step_36 : decode cX6_step 36 = .ok (.getfield 17, 3) := by decide +kernel
theorem dX6_step_39 : decode cX6_step 39 = .ok (.iconst 1, 1) := by decide +kernel
theorem dX6_step_40 : decode cX6_step 40 = .ok (.iadd, 1) := by decide +kernel
theorem dX6_step_41 : decode cX6_step 41 = .ok (.putfield 17, 3) := by decide +kernel
theorem dX6_step_44 : decode cX6_step 44 = .ok (.goto (-36), 3) := by decide +kernel
theorem dX6_step_47 : decode cX6_step 47 = .ok (.aload_n 0, 1) := by decide +kernel
theorem dX6_step_48 : decode cX6_step 48 = .ok (.aload_n 0, 1) := by decide +kernel
theorem dX6_step_49 : decode cX6_step 49 = .ok (.getfield 17, 3) := by decide +kernel
theorem dX6_step_52 : decode cX6_step 52 = .ok (.putfield 20, 3) := by decide +kernel
theorem dX6_step_55 : decode cX6_step 55 = .ok (.aload_n 0, 1) := by decide +kernel
theorem dX6_step_56 : decode cX6_step 56 = .ok (.aload_n 0, 1) := by decide +kernel
theorem dX6_step_57 : decode cX6_step 57 = .ok (.getfield 17, 3) := by decide +kernel
theorem dX6_step_60 : decode cX6_step 60 = .ok (.aload_n 0, 1) := by decide +kernel
theorem dX6_step_61 : decode cX6_step 61 = .ok (.getfield 13, 3) := by decide +kernel
theorem dX6_step_64 : decode cX6_step 64 = .ok (.if_icmp .ge 18, 3) := by decide +kernel
theorem dX6_step_67 : decode cX6_step 67 = .ok (.aload_n 0, 1) := by decide +kernel
theorem dX6_step_68 : decode cX6_step 68 = .ok (.getfield 9, 3) := by decide +kernel
theorem dX6_step_71 : decode cX6_step 71 = .ok (.aload_n 0, 1) := by decide +kernel
theorem dX6_step_72 : decode cX6_step 72 = .ok (.getfield 17, 3) := by decide +kernel
theorem dX6_step_75 : decode cX6_step 75 = .ok (.baload, 1) := by decide +kernel
theorem dX6_step_76 : decode cX6_step 76 = .ok (.invokestatic 30, 3) := by decide +kernel
theorem dX6_step_79 : decode cX6_step 79 = .ok (.goto 4, 3) := by decide +kernel
theorem dX6_step_82 : decode cX6_step 82 = .ok (.iconst 4, 1) := by decide +kernel
theorem dX6_step_83 : decode cX6_step 83 = .ok (.putfield 34, 3) := by decide +kernel
theorem dX6_step_86 : decode cX6_step 86 = .ok (.aload_n 0, 1) := by decide +kernel
theorem dX6_step_87 : decode cX6_step 87 = .ok (.getfield 34, 3) := by decide +kernel
theorem dX6_step_90 : decode cX6_step 90 = .ok (.iconst 3, 1) := by decide +kernel
theorem dX6_step_91 : decode cX6_step 91 = .ok (.if_icmp .eq 10, 3) := by decide +kernel
theorem dX6_step_94 : decode cX6_step 94 = .ok (.aload_n 0, 1) := by decide +kernel
theorem dX6_step_95 : decode cX6_step 95 = .ok (.getfield 34, 3) := by decide +kernel
theorem dX6_step_98 : decode cX6_step 98 = .ok (.ifCond .ne 13, 3) := by decide +kernel
theorem dX6_step_101 : decode cX6_step 101 = .ok (.aload_n 0, 1) := by decide +kernel
theorem dX6_step_102 : decode cX6_step 102 = .ok (.dup, 1) := by decide +kernel
theorem dX6_step_103 : decode cX6_step 103 = .ok (.getfield 20, 3) := by decide +kernel
theorem dX6_step_106 : decode cX6_step 106 = .ok (.iconst 1, 1) := by decide +kernel
theorem dX6_step_107 : decode cX6_step 107 = .ok (.iadd, 1) := by decide +kernel
theorem dX6_step_108 : decode cX6_step 108 = .ok (.putfield 20, 3) := by decide +kernel
theorem dX6_step_111 : decode cX6_step 111 = .ok (.aload_n 0, 1) := by decide +kernel
theorem dX6_step_112 : decode cX6_step 112 = .ok (.getfield 20, 3) := by decide +kernel
theorem dX6_step_115 : decode cX6_step 115 = .ok (.aload_n 0, 1) := by decide +kernel
theorem dX6_step_116 : decode cX6_step 116 = .ok (.getfield 13, 3) := by decide +kernel
theorem dX6_step_119 : decode cX6_step 119 = .ok (.if_icmp .ge 51, 3) := by decide +kernel
theorem dX6_step_122 : decode cX6_step 122 = .ok (.aload_n 0, 1) := by decide +kernel
theorem dX6_step_123 : decode cX6_step 123 = .ok (.getfield 34, 3) := by decide +kernel
theorem dX6_step_126 : decode cX6_step 126 = .ok (.iconst 1, 1) := by decide +kernel
theorem dX6_step_127 : decode cX6_step 127 = .ok (.if_icmp .eq 11, 3) := by decide +kernel
theorem dX6_step_130 : decode cX6_step 130 = .ok (.aload_n 0, 1) := by decide +kernel
theorem dX6_step_131 : decode cX6_step 131 = .ok (.getfield 34, 3) := by decide +kernel
theorem dX6_step_134 : decode cX6_step 134 = .ok (.iconst 2, 1) := by decide +kernel
theorem dX6_step_135 : decode cX6_step 135 = .ok (.if_icmp .ne 35, 3) := by decide +kernel
theorem dX6_step_138 : decode cX6_step 138 = .ok (.aload_n 0, 1) := by decide +kernel
theorem dX6_step_139 : decode cX6_step 139 = .ok (.getfield 9, 3) := by decide +kernel
theorem dX6_step_142 : decode cX6_step 142 = .ok (.aload_n 0, 1) := by decide +kernel
theorem dX6_step_143 : decode cX6_step 143 = .ok (.getfield 20, 3) := by decide +kernel
theorem dX6_step_146 : decode cX6_step 146 = .ok (.baload, 1) := by decide +kernel
theorem dX6_step_147 : decode cX6_step 147 = .ok (.invokestatic 30, 3) := by decide +kernel
theorem dX6_step_150 : decode cX6_step 150 = .ok (.aload_n 0, 1) := by decide +kernel
theorem dX6_step_151 : decode cX6_step 151 = .ok (.getfield 34, 3) := by decide +kernel
theorem dX6_step_154 : decode cX6_step 154 = .ok (.if_icmp .ne 16, 3) := by decide +kernel
theorem dX6_step_157 : decode cX6_step 157 = .ok (.aload_n 0, 1) := by decide +kernel
theorem dX6_step_158 : decode cX6_step 158 = .ok (.dup, 1) := by decide +kernel
theorem dX6_step_159 : decode cX6_step 159 = .ok (.getfield 20, 3) := by decide +kernel
theorem dX6_step_162 : decode cX6_step 162 = .ok (.iconst 1, 1) := by decide +kernel
theorem dX6_step_163 : decode cX6_step 163 = .ok (.iadd, 1) := by decide +kernel
theorem dX6_step_164 : decode cX6_step 164 = .ok (.putfield 20, 3) := by decide +kernel
theorem dX6_step_167 : decode cX6_step 167 = .ok (.goto (-56), 3) := by decide +kernel
theorem dX6_step_170 : decode cX6_step 170 = .ok (.aload_n 0, 1) := by decide +kernel
theorem dX6_step_171 : decode cX6_step 171 = .ok (.getfield 34, 3) := by decide +kernel
theorem dX6_step_174 : decode cX6_step 174 = .ok (.iconst 2, 1) := by decide +kernel
theorem dX6_step_175 : decode cX6_step 175 = .ok (.if_icmp .ne 21, 3) := by decide +kernel
theorem dX6_step_178 : decode cX6_step 178 = .ok (.aload_n 0, 1) := by decide +kernel
theorem dX6_step_179 : decode cX6_step 179 = .ok (.getfield 20, 3) := by decide +kernel
theorem dX6_step_182 : decode cX6_step 182 = .ok (.aload_n 0, 1) := by decide +kernel
theorem dX6_step_183 : decode cX6_step 183 = .ok (.getfield 17, 3) := by decide +kernel
theorem dX6_step_186 : decode cX6_step 186 = .ok (.isub, 1) := by decide +kernel
theorem dX6_step_187 : decode cX6_step 187 = .ok (.iconst 3, 1) := by decide +kernel
theorem dX6_step_188 : decode cX6_step 188 = .ok (.if_icmp .le 8, 3) := by decide +kernel
theorem dX6_step_191 : decode cX6_step 191 = .ok (.aload_n 0, 1) := by decide +kernel
theorem dX6_step_192 : decode cX6_step 192 = .ok (.iconst 0, 1) := by decide +kernel
theorem dX6_step_193 : decode cX6_step 193 = .ok (.putfield 34, 3) := by decide +kernel
theorem dX6_step_196 : decode cX6_step 196 = .ok (.return_, 1) := by decide +kernel
theorem yv_X6_step : YV yX6_step cX6_step 1 none 0 := ⟨m369, m370, m3, m371, ⟨by decide +kernel, by decide +kernel, by decide +kernel⟩, by decide⟩
noncomputable def f_X6_step_170 (q : Nat) (h : AH) : Option (Unit × AH) := if (h q 2) = 2 then (if ((h q 4) - (h q 3)) ≤ 3 then (some ((), h)) else (lt (hset h q 2 0) (fun h_1 => some ((), h_1)))) else (some ((), h))
set_option maxRecDepth 20000 in
set_option maxHeartbeats 4000000 in
theorem t_X6_step_170 {z : MC} {g : GC} {A : Nat → Prop} (F : Fx z cX6_step 1 RX6 none 2 g A) {q : Nat} (hq : (gL g)[q]? = some (.inl 6)) : ∀ (h : AH), Snd z 1 g A (QF z g A mkU) 170 [(0, .ref (gad g q))] [] h (f_X6_step_170 q  h) := by
  intro h
  unfold f_X6_step_170
  refine s_aload_n F dX6_step_170 rfl 0 rfl ?_
  refine s_geti F ciX6 2 hq (by decide) rfl rfl m51 dX6_step_171 ?_
  refine s_iconst F (v := 2) dX6_step_174 (by decide) ?_
  refine s_icmp_ne F 196 dX6_step_175 (by decide) (fun _ => ?_) (fun _ => ?_)
  · exact s_vret F dX6_step_196
  · refine s_aload_n F dX6_step_178 rfl 0 rfl ?_
    refine s_geti F ciX6 4 hq (by decide) rfl rfl m53 dX6_step_179 ?_
    refine s_aload_n F dX6_step_182 rfl 0 rfl ?_
    refine s_geti F ciX6 3 hq (by decide) rfl rfl m52 dX6_step_183 ?_
    refine s_isub F dX6_step_186 ?_
    refine s_iconst F (v := 3) dX6_step_187 (by decide) ?_
    refine s_icmp_le F 196 dX6_step_188 (by decide) (fun _ => ?_) (fun _ => ?_)
    · exact s_vret F dX6_step_196
    · refine s_aload_n F dX6_step_191 rfl 0 rfl ?_
      refine s_iconst F (v := 0) dX6_step_192 (by decide) ?_
      refine s_put F ciX6 (k := 2) hq (by decide) rfl rfl rfl rfl m51 dX6_step_193 ?_
      refine s_letH (fun h_1 => ?_)
      exact s_vret F dX6_step_196
noncomputable def f_X6_step_138 (q : Nat) (K111 : AH → Option (Unit × AH)) (h : AH) : Option (Unit × AH) := lt (h q 4) (fun v_2 => ck v_2 500 (bd (f_X6_sortOf (h (q + 1) (v_2 : Int32).toNatClampNeg) h) (fun v_4 h_3 => if v_4 = (h_3 q 2) then (lt (hset h_3 q 4 ((h_3 q 4) + 1)) (fun h_5 => K111 h_5)) else (f_X6_step_170 q h_3))))
set_option maxRecDepth 20000 in
set_option maxHeartbeats 4000000 in
theorem t_X6_step_138 {z : MC} {g : GC} {A : Nat → Prop} (F : Fx z cX6_step 1 RX6 none 2 g A) {q : Nat} (hq : (gL g)[q]? = some (.inl 6)) (K111 : AH → Option (Unit × AH)) (hK111 : ∀ (h : AH), Snd z 1 g A (QF z g A mkU) 111 [(0, .ref (gad g q))] [] h (K111  h)) : ∀ (h : AH), Snd z 1 g A (QF z g A mkU) 138 [(0, .ref (gad g q))] [] h (f_X6_step_138 q K111  h) := by
  intro h
  unfold f_X6_step_138
  refine s_aload_n F dX6_step_138 rfl 0 rfl ?_
  have hw_1 := wf_ref F.2.2.2.2.2.2.1 hq 0 1 (.inr (1, 500)) rfl
  refine s_getr F ciX6 0 1 (.inr (1, 500)) hq (by decide) rfl rfl m49 dX6_step_139 ?_
  refine s_aload_n F dX6_step_142 rfl 0 rfl ?_
  refine s_geti F ciX6 4 hq (by decide) rfl rfl m53 dX6_step_143 ?_
  refine s_leti (fun v_2 => ?_)
  refine s_bald F hw_1 dX6_step_146 ?_
  refine s_callSi (f := fun hh => f_X6_sortOf (h (q + 1) (v_2 : Int32).toNatClampNeg) hh) (As := [.int (h (q + 1) (v_2 : Int32).toNatClampNeg)]) F ys_X6_sortOf (ct_X6_sortOf z.2.1 g (h (q + 1) (v_2 : Int32).toNatClampNeg)) (by decide) m375 rfl rfl (Nat.le_of_ble_eq_true rfl) dX6_step_147 (fun v_4 h_3 e_v_4 => ?_)
  refine s_aload_n F dX6_step_150 rfl 0 rfl ?_
  refine s_geti F ciX6 2 hq (by decide) rfl rfl m51 dX6_step_151 ?_
  refine s_icmp_ne F 170 dX6_step_154 (by decide) (fun _ => ?_) (fun _ => ?_)
  · exact s_sub [0] rfl (t_X6_step_170 F hq h_3)
  · refine s_aload_n F dX6_step_157 rfl 0 rfl ?_
    refine s_dup F dX6_step_158 rfl ?_
    refine s_geti F ciX6 4 hq (by decide) rfl rfl m53 dX6_step_159 ?_
    refine s_iconst F (v := 1) dX6_step_162 (by decide) ?_
    refine s_iadd F dX6_step_163 ?_
    refine s_put F ciX6 (k := 4) hq (by decide) rfl rfl rfl rfl m53 dX6_step_164 ?_
    refine s_letH (fun h_5 => ?_)
    refine s_goto F 111 dX6_step_167 (by decide) ?_
    exact s_sub [0] rfl (hK111 h_5)
noncomputable def f_X6_step_111 (q : Nat) : Nat → AH → Option (Unit × AH)
  | 0, _ => none
  | n + 1, h => if (h q 1) ≤ (h q 4) then (f_X6_step_170 q h) else (if (h q 2) = 1 then (f_X6_step_138 q (f_X6_step_111 q n) h) else (if (h q 2) = 2 then (f_X6_step_138 q (f_X6_step_111 q n) h) else (f_X6_step_170 q h)))
set_option maxRecDepth 20000 in
set_option maxHeartbeats 4000000 in
theorem t_X6_step_111 {z : MC} {g : GC} {A : Nat → Prop} (F : Fx z cX6_step 1 RX6 none 2 g A) {q : Nat} (hq : (gL g)[q]? = some (.inl 6)) : ∀ (n : Nat) (h : AH), Snd z 1 g A (QF z g A mkU) 111 [(0, .ref (gad g q))] [] h (f_X6_step_111 q n  h) := by
  intro n
  induction n with
  | zero => intros; exact s_none
  | succ n ih =>
    intro h
    unfold f_X6_step_111
    refine s_aload_n F dX6_step_111 rfl 0 rfl ?_
    refine s_geti F ciX6 4 hq (by decide) rfl rfl m53 dX6_step_112 ?_
    refine s_aload_n F dX6_step_115 rfl 0 rfl ?_
    refine s_geti F ciX6 1 hq (by decide) rfl rfl m50 dX6_step_116 ?_
    refine s_icmp_ge F 170 dX6_step_119 (by decide) (fun _ => ?_) (fun _ => ?_)
    · exact s_sub [0] rfl (t_X6_step_170 F hq h)
    · refine s_aload_n F dX6_step_122 rfl 0 rfl ?_
      refine s_geti F ciX6 2 hq (by decide) rfl rfl m51 dX6_step_123 ?_
      refine s_iconst F (v := 1) dX6_step_126 (by decide) ?_
      refine s_icmp_eq F 138 dX6_step_127 (by decide) (fun _ => ?_) (fun _ => ?_)
      · exact s_sub [0] rfl (t_X6_step_138 F hq (f_X6_step_111 q n) ih h)
      · refine s_aload_n F dX6_step_130 rfl 0 rfl ?_
        refine s_geti F ciX6 2 hq (by decide) rfl rfl m51 dX6_step_131 ?_
        refine s_iconst F (v := 2) dX6_step_134 (by decide) ?_
        refine s_icmp_ne F 170 dX6_step_135 (by decide) (fun _ => ?_) (fun _ => ?_)
        · exact s_sub [0] rfl (t_X6_step_170 F hq h)
        · exact s_sub [0] rfl (t_X6_step_138 F hq (f_X6_step_111 q n) ih h)
noncomputable def f_X6_step_83 (q : Nat) (y0 : Int32) (h : AH) : Option (Unit × AH) := lt (hset h q 2 y0) (fun h_1 => if (h_1 q 2) = 3 then (lt (hset h_1 q 4 ((h_1 q 4) + 1)) (fun h_2 => f_X6_step_111 q fu h_2)) else (if (h_1 q 2) = 0 then (lt (hset h_1 q 4 ((h_1 q 4) + 1)) (fun h_3 => f_X6_step_111 q fu h_3)) else (f_X6_step_111 q fu h_1)))
set_option maxRecDepth 20000 in
set_option maxHeartbeats 4000000 in
theorem t_X6_step_83 {z : MC} {g : GC} {A : Nat → Prop} (F : Fx z cX6_step 1 RX6 none 2 g A) {q : Nat} (hq : (gL g)[q]? = some (.inl 6)) : ∀ (y0 : Int32) (h : AH), Snd z 1 g A (QF z g A mkU) 83 [(0, .ref (gad g q))] [.int y0, .ref (gad g q)] h (f_X6_step_83 q y0 h) := by
  intro y0 h
  unfold f_X6_step_83
  refine s_put F ciX6 (k := 2) hq (by decide) rfl rfl rfl rfl m51 dX6_step_83 ?_
  refine s_letH (fun h_1 => ?_)
  refine s_aload_n F dX6_step_86 rfl 0 rfl ?_
  refine s_geti F ciX6 2 hq (by decide) rfl rfl m51 dX6_step_87 ?_
  refine s_iconst F (v := 3) dX6_step_90 (by decide) ?_
  refine s_icmp_eq F 101 dX6_step_91 (by decide) (fun _ => ?_) (fun _ => ?_)
  · refine s_aload_n F dX6_step_101 rfl 0 rfl ?_
    refine s_dup F dX6_step_102 rfl ?_
    refine s_geti F ciX6 4 hq (by decide) rfl rfl m53 dX6_step_103 ?_
    refine s_iconst F (v := 1) dX6_step_106 (by decide) ?_
    refine s_iadd F dX6_step_107 ?_
    refine s_put F ciX6 (k := 4) hq (by decide) rfl rfl rfl rfl m53 dX6_step_108 ?_
    refine s_letH (fun h_2 => ?_)
    exact s_sub [0] rfl (t_X6_step_111 F hq fu h_2)
  · refine s_aload_n F dX6_step_94 rfl 0 rfl ?_
    refine s_geti F ciX6 2 hq (by decide) rfl rfl m51 dX6_step_95 ?_
    refine s_if_ne F 111 dX6_step_98 (by decide) (fun _ => ?_) (fun _ => ?_)
    · exact s_sub [0] rfl (t_X6_step_111 F hq fu h_1)
    · refine s_aload_n F dX6_step_101 rfl 0 rfl ?_
      refine s_dup F dX6_step_102 rfl ?_
      refine s_geti F ciX6 4 hq (by decide) rfl rfl m53 dX6_step_103 ?_
      refine s_iconst F (v := 1) dX6_step_106 (by decide) ?_
      refine s_iadd F dX6_step_107 ?_
      refine s_put F ciX6 (k := 4) hq (by decide) rfl rfl rfl rfl m53 dX6_step_108 ?_
      refine s_letH (fun h_3 => ?_)
      exact s_sub [0] rfl (t_X6_step_111 F hq fu h_3)
noncomputable def f_X6_step_47 (q : Nat) (h : AH) : Option (Unit × AH) := lt (hset h q 4 (h q 3)) (fun h_1 => if (h_1 q 1) ≤ (h_1 q 3) then (f_X6_step_83 q 4 h_1) else (lt (h_1 q 3) (fun v_3 => ck v_3 500 (bd (f_X6_sortOf (h_1 (q + 1) (v_3 : Int32).toNatClampNeg) h_1) (fun v_5 h_4 => f_X6_step_83 q v_5 h_4)))))
set_option maxRecDepth 20000 in
set_option maxHeartbeats 4000000 in
theorem t_X6_step_47 {z : MC} {g : GC} {A : Nat → Prop} (F : Fx z cX6_step 1 RX6 none 2 g A) {q : Nat} (hq : (gL g)[q]? = some (.inl 6)) : ∀ (h : AH), Snd z 1 g A (QF z g A mkU) 47 [(0, .ref (gad g q))] [] h (f_X6_step_47 q  h) := by
  intro h
  unfold f_X6_step_47
  refine s_aload_n F dX6_step_47 rfl 0 rfl ?_
  refine s_aload_n F dX6_step_48 rfl 0 rfl ?_
  refine s_geti F ciX6 3 hq (by decide) rfl rfl m52 dX6_step_49 ?_
  refine s_put F ciX6 (k := 4) hq (by decide) rfl rfl rfl rfl m53 dX6_step_52 ?_
  refine s_letH (fun h_1 => ?_)
  refine s_aload_n F dX6_step_55 rfl 0 rfl ?_
  refine s_aload_n F dX6_step_56 rfl 0 rfl ?_
  refine s_geti F ciX6 3 hq (by decide) rfl rfl m52 dX6_step_57 ?_
  refine s_aload_n F dX6_step_60 rfl 0 rfl ?_
  refine s_geti F ciX6 1 hq (by decide) rfl rfl m50 dX6_step_61 ?_
  refine s_icmp_ge F 82 dX6_step_64 (by decide) (fun _ => ?_) (fun _ => ?_)
  · refine s_iconst F (v := 4) dX6_step_82 (by decide) ?_
    exact s_sub [0] rfl (t_X6_step_83 F hq 4 h_1)
  · refine s_aload_n F dX6_step_67 rfl 0 rfl ?_
    have hw_2 := wf_ref F.2.2.2.2.2.2.1 hq 0 1 (.inr (1, 500)) rfl
    refine s_getr F ciX6 0 1 (.inr (1, 500)) hq (by decide) rfl rfl m49 dX6_step_68 ?_
    refine s_aload_n F dX6_step_71 rfl 0 rfl ?_
    refine s_geti F ciX6 3 hq (by decide) rfl rfl m52 dX6_step_72 ?_
    refine s_leti (fun v_3 => ?_)
    refine s_bald F hw_2 dX6_step_75 ?_
    refine s_callSi (f := fun hh => f_X6_sortOf (h_1 (q + 1) (v_3 : Int32).toNatClampNeg) hh) (As := [.int (h_1 (q + 1) (v_3 : Int32).toNatClampNeg)]) F ys_X6_sortOf (ct_X6_sortOf z.2.1 g (h_1 (q + 1) (v_3 : Int32).toNatClampNeg)) (by decide) m375 rfl rfl (Nat.le_of_ble_eq_true rfl) dX6_step_76 (fun v_5 h_4 e_v_5 => ?_)
    refine s_goto F 83 dX6_step_79 (by decide) ?_
    exact s_sub [0] rfl (t_X6_step_83 F hq v_5 h_4)
noncomputable def f_X6_step_8 (q : Nat) : Nat → AH → Option (Unit × AH)
  | 0, _ => none
  | n + 1, h => if (h q 1) ≤ (h q 3) then (f_X6_step_47 q h) else (lt (h q 3) (fun v_2 => ck v_2 500 (bd (f_X6_isBlank (h (q + 1) (v_2 : Int32).toNatClampNeg) h) (fun v_4 h_3 => if v_4 = 0 then (f_X6_step_47 q h_3) else (lt (hset h_3 q 3 ((h_3 q 3) + 1)) (fun h_5 => (f_X6_step_8 q n) h_5))))))
set_option maxRecDepth 20000 in
set_option maxHeartbeats 4000000 in
theorem t_X6_step_8 {z : MC} {g : GC} {A : Nat → Prop} (F : Fx z cX6_step 1 RX6 none 2 g A) {q : Nat} (hq : (gL g)[q]? = some (.inl 6)) : ∀ (n : Nat) (h : AH), Snd z 1 g A (QF z g A mkU) 8 [(0, .ref (gad g q))] [] h (f_X6_step_8 q n  h) := by
  intro n
  induction n with
  | zero => intros; exact s_none
  | succ n ih =>
    intro h
    unfold f_X6_step_8
    refine s_aload_n F dX6_step_8 rfl 0 rfl ?_
    refine s_geti F ciX6 3 hq (by decide) rfl rfl m52 dX6_step_9 ?_
    refine s_aload_n F dX6_step_12 rfl 0 rfl ?_
    refine s_geti F ciX6 1 hq (by decide) rfl rfl m50 dX6_step_13 ?_
    refine s_icmp_ge F 47 dX6_step_16 (by decide) (fun _ => ?_) (fun _ => ?_)
    · exact s_sub [0] rfl (t_X6_step_47 F hq h)
    · refine s_aload_n F dX6_step_19 rfl 0 rfl ?_
      have hw_1 := wf_ref F.2.2.2.2.2.2.1 hq 0 1 (.inr (1, 500)) rfl
      refine s_getr F ciX6 0 1 (.inr (1, 500)) hq (by decide) rfl rfl m49 dX6_step_20 ?_
      refine s_aload_n F dX6_step_23 rfl 0 rfl ?_
      refine s_geti F ciX6 3 hq (by decide) rfl rfl m52 dX6_step_24 ?_
      refine s_leti (fun v_2 => ?_)
      refine s_bald F hw_1 dX6_step_27 ?_
      refine s_callSi (f := fun hh => f_X6_isBlank (h (q + 1) (v_2 : Int32).toNatClampNeg) hh) (As := [.int (h (q + 1) (v_2 : Int32).toNatClampNeg)]) F ys_X6_isBlank (ct_X6_isBlank z.2.1 g (h (q + 1) (v_2 : Int32).toNatClampNeg)) (by decide) m372 rfl rfl (Nat.le_of_ble_eq_true rfl) dX6_step_28 (fun v_4 h_3 e_v_4 => ?_)
      refine s_if_eq F 47 dX6_step_31 (by decide) (fun _ => ?_) (fun _ => ?_)
      · exact s_sub [0] rfl (t_X6_step_47 F hq h_3)
      · refine s_aload_n F dX6_step_34 rfl 0 rfl ?_
        refine s_dup F dX6_step_35 rfl ?_
        refine s_geti F ciX6 3 hq (by decide) rfl rfl m52 dX6_step_36 ?_
        refine s_iconst F (v := 1) dX6_step_39 (by decide) ?_
        refine s_iadd F dX6_step_40 ?_
        refine s_put F ciX6 (k := 3) hq (by decide) rfl rfl rfl rfl m52 dX6_step_41 ?_
        refine s_letH (fun h_5 => ?_)
        refine s_goto F 8 dX6_step_44 (by decide) ?_
        exact s_sub [0] rfl (ih h_5)
noncomputable def f_X6_step (q : Nat) (h : AH) : Option (Unit × AH) := lt (hset h q 3 (h q 4)) (fun h_1 => f_X6_step_8 q fu h_1)
set_option maxRecDepth 20000 in
set_option maxHeartbeats 4000000 in
theorem ct_X6_step (l : Launch) (g : GC) {q : Nat} (hq : (gL g)[q]? = some (.inl 6)) : Ct l yX6_step cX6_step 1 none 2 [.ref (gad g q)] g mkU (fun h => f_X6_step q h) := by
  refine Ct.of (by decide +kernel) (Nat.le_of_ble_eq_true rfl) (fun z A h _ F => ?_)
  show Snd z 1 g A (QF z g A mkU) 0 [(0, .ref (gad g q))] [] h (f_X6_step q h)
  unfold f_X6_step
  refine s_aload_n F dX6_step_0 rfl 0 rfl ?_
  refine s_aload_n F dX6_step_1 rfl 0 rfl ?_
  refine s_geti F ciX6 4 hq (by decide) rfl rfl m53 dX6_step_2 ?_
  refine s_put F ciX6 (k := 3) hq (by decide) rfl rfl rfl rfl m52 dX6_step_5 ?_
  refine s_letH (fun h_1 => ?_)
  exact s_sub [0] rfl (t_X6_step_8 F hq fu h_1)
theorem dX4_readNumber_0 : decode cX4_readNumber 0 = .ok (.aload_n 1, 1) := by decide +kernel
theorem dX4_readNumber_1 : decode cX4_readNumber 1 = .ok (.invokevirtual 128, 3) := by decide +kernel
theorem dX4_readNumber_4 : decode cX4_readNumber 4 = .ok (.ifCond .ne 9, 3) := by decide +kernel
theorem dX4_readNumber_7 : decode cX4_readNumber 7 = .ok (.aload_n 0, 1) := by decide +kernel
theorem dX4_readNumber_8 : decode cX4_readNumber 8 = .ok (.iconst 1, 1) := by decide +kernel
theorem dX4_readNumber_9 : decode cX4_readNumber 9 = .ok (.invokevirtual 50, 3) := by decide +kernel
theorem dX4_readNumber_12 : decode cX4_readNumber 12 = .ok (.ireturn, 1) := by decide +kernel
theorem dX4_readNumber_13 : decode cX4_readNumber 13 = .ok (.aload_n 1, 1) := by decide +kernel
theorem dX4_readNumber_14 : decode cX4_readNumber 14 = .ok (.invokevirtual 131, 3) := by decide +kernel
theorem dX4_readNumber_17 : decode cX4_readNumber 17 = .ok (.istore 6, 2) := by decide +kernel
theorem dX4_readNumber_19 : decode cX4_readNumber 19 = .ok (.iload 6, 2) := by decide +kernel
theorem dX4_readNumber_21 : decode cX4_readNumber 21 = .ok (.iload_n 2, 1) := by decide +kernel
theorem dX4_readNumber_22 : decode cX4_readNumber 22 = .ok (.if_icmp .lt 9, 3) := by decide +kernel
theorem dX4_readNumber_25 : decode cX4_readNumber 25 = .ok (.iload 6, 2) := by decide +kernel
theorem dX4_readNumber_27 : decode cX4_readNumber 27 = .ok (.iload_n 3, 1) := by decide +kernel
theorem dX4_readNumber_28 : decode cX4_readNumber 28 = .ok (.if_icmp .le 9, 3) := by decide +kernel
theorem dX4_readNumber_31 : decode cX4_readNumber 31 = .ok (.aload_n 0, 1) := by decide +kernel
theorem dX4_readNumber_32 : decode cX4_readNumber 32 = .ok (.iconst 2, 1) := by decide +kernel
theorem dX4_readNumber_33 : decode cX4_readNumber 33 = .ok (.invokevirtual 50, 3) := by decide +kernel
theorem dX4_readNumber_36 : decode cX4_readNumber 36 = .ok (.ireturn, 1) := by decide +kernel
theorem dX4_readNumber_37 : decode cX4_readNumber 37 = .ok (.aload 4, 2) := by decide +kernel
theorem dX4_readNumber_39 : decode cX4_readNumber 39 = .ok (.iload 5, 2) := by decide +kernel
theorem dX4_readNumber_41 : decode cX4_readNumber 41 = .ok (.iload 6, 2) := by decide +kernel
theorem dX4_readNumber_43 : decode cX4_readNumber 43 = .ok (.iastore, 1) := by decide +kernel
theorem dX4_readNumber_44 : decode cX4_readNumber 44 = .ok (.aload_n 1, 1) := by decide +kernel
theorem dX4_readNumber_45 : decode cX4_readNumber 45 = .ok (.invokevirtual 54, 3) := by decide +kernel
theorem dX4_readNumber_48 : decode cX4_readNumber 48 = .ok (.iconst 1, 1) := by decide +kernel
theorem dX4_readNumber_49 : decode cX4_readNumber 49 = .ok (.ireturn, 1) := by decide +kernel
theorem yv_X4_readNumber : YV yX4_readNumber cX4_readNumber 7 (some .boolean) 5 := ⟨m442, ms4, m4, m443, ⟨by decide +kernel, by decide +kernel, by decide +kernel⟩, by decide⟩
noncomputable def f_X4_readNumber (q : Nat) (r1 : Nat) (x2 : Int32) (x3 : Int32) (r4 n4 : Nat) (x5 : Int32) (h : AH) : Option (Int32 × AH) := bd (f_X6_isNumber r1 h) (fun v_2 h_1 => if v_2 = 0 then (bd (f_X4_faulty q 1 h_1) (fun v_13 h_12 => gz v_13 (some (v_13, h_12)))) else (bd (f_X6_numberTold r1 h_1) (fun v_4 h_3 => if v_4 < x2 then (bd (f_X4_faulty q 2 h_3) (fun v_6 h_5 => gz v_6 (some (v_6, h_5)))) else (if v_4 ≤ x3 then (ck x5 n4 (lt (hset h_3 r4 (x5 : Int32).toNatClampNeg v_4) (fun h_7 => bd (f_X6_step r1 h_7) (fun _ h_8 => some (1, h_8))))) else (bd (f_X4_faulty q 2 h_3) (fun v_11 h_10 => gz v_11 (some (v_11, h_10))))))))
set_option maxRecDepth 20000 in
set_option maxHeartbeats 4000000 in
theorem ct_X4_readNumber (l : Launch) (g : GC) {q : Nat} (hq : (gL g)[q]? = some (.inl 4)) {r1 : Nat} (hr1 : (gL g)[r1]? = some (.inl 6)) (x2 : Int32) (x3 : Int32) {r4 n4 : Nat} (hr4 : (gL g)[r4]? = some (.inr (0, n4))) (x5 : Int32) : Ct l yX4_readNumber cX4_readNumber 7 (some .boolean) 3 [.ref (gad g q), .ref (gad g r1), .int x2, .int x3, .ref (gad g r4), .int x5] g mkI (fun h => f_X4_readNumber q r1 x2 x3 r4 n4 x5 h) := by
  refine Ct.of (by decide +kernel) (Nat.le_of_ble_eq_true rfl) (fun z A h _ F => ?_)
  show Snd z 7 g A (QF z g A mkI) 0 [(0, .ref (gad g q)), (1, .ref (gad g r1)), (2, .int x2), (3, .int x3), (4, .ref (gad g r4)), (5, .int x5)] [] h (f_X4_readNumber q r1 x2 x3 r4 n4 x5 h)
  unfold f_X4_readNumber
  refine s_aload_n F dX4_readNumber_0 rfl 1 rfl ?_
  refine s_callVi (f := fun hh => f_X6_isNumber r1 hh) (As := []) F yv_X6_isNumber (ct_X6_isNumber z.2.1 g hr1) (by decide) m444 hr1 rfl rfl rfl (Nat.le_of_ble_eq_true rfl) dX4_readNumber_1 (fun v_2 h_1 e_v_2 => ?_)
  refine s_if_ne F 13 dX4_readNumber_4 (by decide) (fun _ => ?_) (fun _ => ?_)
  · refine s_aload_n F dX4_readNumber_13 rfl 1 rfl ?_
    refine s_callVi (f := fun hh => f_X6_numberTold r1 hh) (As := []) F yv_X6_numberTold (ct_X6_numberTold z.2.1 g hr1) (by decide) m448 hr1 rfl rfl rfl (Nat.le_of_ble_eq_true rfl) dX4_readNumber_14 (fun v_4 h_3 e_v_4 => ?_)
    refine s_istore F (lv' := [(6, .int v_4), (0, .ref (gad g q)), (1, .ref (gad g r1)), (2, .int x2), (3, .int x3), (4, .ref (gad g r4)), (5, .int x5)]) dX4_readNumber_17 (by decide) rfl ?_
    refine s_iload F dX4_readNumber_19 0 rfl ?_
    refine s_iload_n F dX4_readNumber_21 rfl 3 rfl ?_
    refine s_icmp_lt F 31 dX4_readNumber_22 (by decide) (fun _ => ?_) (fun _ => ?_)
    · refine s_aload_n F dX4_readNumber_31 rfl 1 rfl ?_
      refine s_iconst F (v := 2) dX4_readNumber_32 (by decide) ?_
      refine s_callVi (f := fun hh => f_X4_faulty q 2 hh) (As := [.int 2]) F yv_X4_faulty (ct_X4_faulty z.2.1 g hq 2) (by decide) m435 hq rfl rfl rfl (Nat.le_of_ble_eq_true rfl) dX4_readNumber_33 (fun v_6 h_5 e_v_6 => ?_)
      exact s_zret F dX4_readNumber_36
    · refine s_iload F dX4_readNumber_25 0 rfl ?_
      refine s_iload_n F dX4_readNumber_27 rfl 4 rfl ?_
      refine s_icmp_le F 37 dX4_readNumber_28 (by decide) (fun _ => ?_) (fun _ => ?_)
      · refine s_aload F dX4_readNumber_37 5 rfl ?_
        refine s_iload F dX4_readNumber_39 6 rfl ?_
        refine s_iload F dX4_readNumber_41 0 rfl ?_
        refine s_iast F hr4 dX4_readNumber_43 ?_
        refine s_letH (fun h_7 => ?_)
        refine s_aload_n F dX4_readNumber_44 rfl 2 rfl ?_
        refine s_callVu (f := fun hh => f_X6_step r1 hh) (As := []) F yv_X6_step (ct_X6_step z.2.1 g hr1) (by decide) m439 hr1 rfl rfl rfl (Nat.le_of_ble_eq_true rfl) dX4_readNumber_45 (fun _ h_8 e_v_9 => ?_)
        refine s_iconst F (v := 1) dX4_readNumber_48 (by decide) ?_
        exact s_zret1 F (by decide) dX4_readNumber_49
      · refine s_aload_n F dX4_readNumber_31 rfl 1 rfl ?_
        refine s_iconst F (v := 2) dX4_readNumber_32 (by decide) ?_
        refine s_callVi (f := fun hh => f_X4_faulty q 2 hh) (As := [.int 2]) F yv_X4_faulty (ct_X4_faulty z.2.1 g hq 2) (by decide) m435 hq rfl rfl rfl (Nat.le_of_ble_eq_true rfl) dX4_readNumber_33 (fun v_11 h_10 e_v_11 => ?_)
        exact s_zret F dX4_readNumber_36
  · refine s_aload_n F dX4_readNumber_7 rfl 0 rfl ?_
    refine s_iconst F (v := 1) dX4_readNumber_8 (by decide) ?_
    refine s_callVi (f := fun hh => f_X4_faulty q 1 hh) (As := [.int 1]) F yv_X4_faulty (ct_X4_faulty z.2.1 g hq 1) (by decide) m435 hq rfl rfl rfl (Nat.le_of_ble_eq_true rfl) dX4_readNumber_9 (fun v_13 h_12 e_v_13 => ?_)
    exact s_zret F dX4_readNumber_12
theorem dX6_isSign_0 : decode cX6_isSign 0 = .ok (.aload_n 0, 1) := by decide +kernel
theorem dX6_isSign_1 : decode cX6_isSign 1 = .ok (.getfield 34, 3) := by decide +kernel
theorem dX6_isSign_4 : decode cX6_isSign 4 = .ok (.iconst 3, 1) := by decide +kernel
theorem dX6_isSign_5 : decode cX6_isSign 5 = .ok (.if_icmp .ne 7, 3) := by decide +kernel
theorem dX6_isSign_8 : decode cX6_isSign 8 = .ok (.iconst 1, 1) := by decide +kernel
theorem dX6_isSign_9 : decode cX6_isSign 9 = .ok (.goto 4, 3) := by decide +kernel
theorem dX6_isSign_12 : decode cX6_isSign 12 = .ok (.iconst 0, 1) := by decide +kernel
theorem dX6_isSign_13 : decode cX6_isSign 13 = .ok (.ireturn, 1) := by decide +kernel
theorem yv_X6_isSign : YV yX6_isSign cX6_isSign 1 (some .boolean) 0 := ⟨m457, m458, m3, m459, ⟨by decide +kernel, by decide +kernel, by decide +kernel⟩, by decide⟩
noncomputable def f_X6_isSign (q : Nat) (h : AH) : Option (Int32 × AH) := if (h q 2) = 3 then (some (1, h)) else (some (0, h))
set_option maxRecDepth 20000 in
set_option maxHeartbeats 4000000 in
theorem ct_X6_isSign (l : Launch) (g : GC) {q : Nat} (hq : (gL g)[q]? = some (.inl 6)) : Ct l yX6_isSign cX6_isSign 1 (some .boolean) 1 [.ref (gad g q)] g mkI (fun h => f_X6_isSign q h) := by
  refine Ct.of (by decide +kernel) (Nat.le_of_ble_eq_true rfl) (fun z A h _ F => ?_)
  show Snd z 1 g A (QF z g A mkI) 0 [(0, .ref (gad g q))] [] h (f_X6_isSign q h)
  unfold f_X6_isSign
  refine s_aload_n F dX6_isSign_0 rfl 0 rfl ?_
  refine s_geti F ciX6 2 hq (by decide) rfl rfl m51 dX6_isSign_1 ?_
  refine s_iconst F (v := 3) dX6_isSign_4 (by decide) ?_
  refine s_icmp_ne F 12 dX6_isSign_5 (by decide) (fun _ => ?_) (fun _ => ?_)
  · refine s_iconst F (v := 0) dX6_isSign_12 (by decide) ?_
    exact s_zret1 F (by decide) dX6_isSign_13
  · refine s_iconst F (v := 1) dX6_isSign_8 (by decide) ?_
    refine s_goto F 13 dX6_isSign_9 (by decide) ?_
    exact s_zret1 F (by decide) dX6_isSign_13
theorem dX4_readSign_0 : decode cX4_readSign 0 = .ok (.aload_n 1, 1) := by decide +kernel
theorem dX4_readSign_1 : decode cX4_readSign 1 = .ok (.invokevirtual 135, 3) := by decide +kernel
theorem dX4_readSign_4 : decode cX4_readSign 4 = .ok (.ifCond .ne 9, 3) := by decide +kernel
theorem dX4_readSign_7 : decode cX4_readSign 7 = .ok (.aload_n 0, 1) := by decide +kernel
theorem dX4_readSign_8 : decode cX4_readSign 8 = .ok (.iconst 1, 1) := by decide +kernel
theorem dX4_readSign_9 : decode cX4_readSign 9 = .ok (.invokevirtual 50, 3) := by decide +kernel
theorem dX4_readSign_12 : decode cX4_readSign 12 = .ok (.ireturn, 1) := by decide +kernel
theorem dX4_readSign_13 : decode cX4_readSign 13 = .ok (.aload_n 1, 1) := by decide +kernel
theorem dX4_readSign_14 : decode cX4_readSign 14 = .ok (.invokevirtual 54, 3) := by decide +kernel
theorem dX4_readSign_17 : decode cX4_readSign 17 = .ok (.iconst 1, 1) := by decide +kernel
theorem dX4_readSign_18 : decode cX4_readSign 18 = .ok (.ireturn, 1) := by decide +kernel
theorem yv_X4_readSign : YV yX4_readSign cX4_readSign 2 (some .boolean) 1 := ⟨m454, ms5, m4, m455, ⟨by decide +kernel, by decide +kernel, by decide +kernel⟩, by decide⟩
noncomputable def f_X4_readSign (q : Nat) (r1 : Nat) (h : AH) : Option (Int32 × AH) := bd (f_X6_isSign r1 h) (fun v_2 h_1 => if v_2 = 0 then (bd (f_X4_faulty q 1 h_1) (fun v_6 h_5 => gz v_6 (some (v_6, h_5)))) else (bd (f_X6_step r1 h_1) (fun _ h_3 => some (1, h_3))))
set_option maxRecDepth 20000 in
set_option maxHeartbeats 4000000 in
theorem ct_X4_readSign (l : Launch) (g : GC) {q : Nat} (hq : (gL g)[q]? = some (.inl 4)) {r1 : Nat} (hr1 : (gL g)[r1]? = some (.inl 6)) : Ct l yX4_readSign cX4_readSign 2 (some .boolean) 3 [.ref (gad g q), .ref (gad g r1)] g mkI (fun h => f_X4_readSign q r1 h) := by
  refine Ct.of (by decide +kernel) (Nat.le_of_ble_eq_true rfl) (fun z A h _ F => ?_)
  show Snd z 2 g A (QF z g A mkI) 0 [(0, .ref (gad g q)), (1, .ref (gad g r1))] [] h (f_X4_readSign q r1 h)
  unfold f_X4_readSign
  refine s_aload_n F dX4_readSign_0 rfl 1 rfl ?_
  refine s_callVi (f := fun hh => f_X6_isSign r1 hh) (As := []) F yv_X6_isSign (ct_X6_isSign z.2.1 g hr1) (by decide) m456 hr1 rfl rfl rfl (Nat.le_of_ble_eq_true rfl) dX4_readSign_1 (fun v_2 h_1 e_v_2 => ?_)
  refine s_if_ne F 13 dX4_readSign_4 (by decide) (fun _ => ?_) (fun _ => ?_)
  · refine s_aload_n F dX4_readSign_13 rfl 1 rfl ?_
    refine s_callVu (f := fun hh => f_X6_step r1 hh) (As := []) F yv_X6_step (ct_X6_step z.2.1 g hr1) (by decide) m439 hr1 rfl rfl rfl (Nat.le_of_ble_eq_true rfl) dX4_readSign_14 (fun _ h_3 e_v_4 => ?_)
    refine s_iconst F (v := 1) dX4_readSign_17 (by decide) ?_
    exact s_zret1 F (by decide) dX4_readSign_18
  · refine s_aload_n F dX4_readSign_7 rfl 0 rfl ?_
    refine s_iconst F (v := 1) dX4_readSign_8 (by decide) ?_
    refine s_callVi (f := fun hh => f_X4_faulty q 1 hh) (As := [.int 1]) F yv_X4_faulty (ct_X4_faulty z.2.1 g hq 1) (by decide) m435 hq rfl rfl rfl (Nat.le_of_ble_eq_true rfl) dX4_readSign_9 (fun v_6 h_5 e_v_6 => ?_)
    exact s_zret F dX4_readSign_12
theorem dX4_readArch_0 : decode cX4_readArch 0 = .ok (.aload_n 1, 1) := by decide +kernel
theorem dX4_readArch_1 : decode cX4_readArch 1 = .ok (.invokevirtual 54, 3) := by decide +kernel
theorem dX4_readArch_4 : decode cX4_readArch 4 = .ok (.aload_n 0, 1) := by decide +kernel
theorem dX4_readArch_5 : decode cX4_readArch 5 = .ok (.aload_n 1, 1) := by decide +kernel
theorem dX4_readArch_6 : decode cX4_readArch 6 = .ok (.iconst 0, 1) := by decide +kernel
theorem dX4_readArch_7 : decode cX4_readArch 7 = .ok (.iconst 4, 1) := by decide +kernel
theorem dX4_readArch_8 : decode cX4_readArch 8 = .ok (.aload_n 0, 1) := by decide +kernel
theorem dX4_readArch_9 : decode cX4_readArch 9 = .ok (.getfield 12, 3) := by decide +kernel
theorem dX4_readArch_12 : decode cX4_readArch 12 = .ok (.getfield 77, 3) := by decide +kernel
theorem dX4_readArch_15 : decode cX4_readArch 15 = .ok (.iconst 0, 1) := by decide +kernel
theorem dX4_readArch_16 : decode cX4_readArch 16 = .ok (.iload_n 2, 1) := by decide +kernel
theorem dX4_readArch_17 : decode cX4_readArch 17 = .ok (.invokestatic 80, 3) := by decide +kernel
theorem dX4_readArch_20 : decode cX4_readArch 20 = .ok (.invokevirtual 61, 3) := by decide +kernel
theorem dX4_readArch_23 : decode cX4_readArch 23 = .ok (.ifCond .eq 75, 3) := by decide +kernel
theorem dX4_readArch_26 : decode cX4_readArch 26 = .ok (.aload_n 0, 1) := by decide +kernel
theorem dX4_readArch_27 : decode cX4_readArch 27 = .ok (.aload_n 1, 1) := by decide +kernel
theorem dX4_readArch_28 : decode cX4_readArch 28 = .ok (.iconst 0, 1) := by decide +kernel
theorem dX4_readArch_29 : decode cX4_readArch 29 = .ok (.iconst 4, 1) := by decide +kernel
theorem dX4_readArch_30 : decode cX4_readArch 30 = .ok (.aload_n 0, 1) := by decide +kernel
theorem dX4_readArch_31 : decode cX4_readArch 31 = .ok (.getfield 12, 3) := by decide +kernel
theorem dX4_readArch_34 : decode cX4_readArch 34 = .ok (.getfield 77, 3) := by decide +kernel
theorem dX4_readArch_37 : decode cX4_readArch 37 = .ok (.iconst 1, 1) := by decide +kernel
theorem dX4_readArch_38 : decode cX4_readArch 38 = .ok (.iload_n 2, 1) := by decide +kernel
theorem dX4_readArch_39 : decode cX4_readArch 39 = .ok (.invokestatic 80, 3) := by decide +kernel
theorem dX4_readArch_42 : decode cX4_readArch 42 = .ok (.invokevirtual 61, 3) := by decide +kernel
theorem dX4_readArch_45 : decode cX4_readArch 45 = .ok (.ifCond .eq 53, 3) := by decide +kernel
theorem dX4_readArch_48 : decode cX4_readArch 48 = .ok (.aload_n 0, 1) := by decide +kernel
theorem dX4_readArch_49 : decode cX4_readArch 49 = .ok (.aload_n 1, 1) := by decide +kernel
theorem dX4_readArch_50 : decode cX4_readArch 50 = .ok (.iconst 1, 1) := by decide +kernel
theorem dX4_readArch_51 : decode cX4_readArch 51 = .ok (.bipush 30, 2) := by decide +kernel
theorem dX4_readArch_53 : decode cX4_readArch 53 = .ok (.aload_n 0, 1) := by decide +kernel
theorem dX4_readArch_54 : decode cX4_readArch 54 = .ok (.getfield 12, 3) := by decide +kernel
theorem dX4_readArch_57 : decode cX4_readArch 57 = .ok (.getfield 84, 3) := by decide +kernel
theorem dX4_readArch_60 : decode cX4_readArch 60 = .ok (.iload_n 2, 1) := by decide +kernel
theorem dX4_readArch_61 : decode cX4_readArch 61 = .ok (.invokevirtual 61, 3) := by decide +kernel
theorem dX4_readArch_64 : decode cX4_readArch 64 = .ok (.ifCond .eq 34, 3) := by decide +kernel
theorem dX4_readArch_67 : decode cX4_readArch 67 = .ok (.aload_n 0, 1) := by decide +kernel
theorem dX4_readArch_68 : decode cX4_readArch 68 = .ok (.aload_n 1, 1) := by decide +kernel
theorem dX4_readArch_69 : decode cX4_readArch 69 = .ok (.iconst 0, 1) := by decide +kernel
theorem dX4_readArch_70 : decode cX4_readArch 70 = .ok (.bipush 9, 2) := by decide +kernel
theorem dX4_readArch_72 : decode cX4_readArch 72 = .ok (.aload_n 0, 1) := by decide +kernel
theorem dX4_readArch_73 : decode cX4_readArch 73 = .ok (.getfield 12, 3) := by decide +kernel
theorem dX4_readArch_76 : decode cX4_readArch 76 = .ok (.getfield 87, 3) := by decide +kernel
theorem dX4_readArch_79 : decode cX4_readArch 79 = .ok (.iload_n 2, 1) := by decide +kernel
theorem dX4_readArch_80 : decode cX4_readArch 80 = .ok (.invokevirtual 61, 3) := by decide +kernel
theorem dX4_readArch_83 : decode cX4_readArch 83 = .ok (.ifCond .eq 15, 3) := by decide +kernel
theorem dX4_readArch_86 : decode cX4_readArch 86 = .ok (.aload_n 0, 1) := by decide +kernel
theorem dX4_readArch_87 : decode cX4_readArch 87 = .ok (.aload_n 1, 1) := by decide +kernel
theorem dX4_readArch_88 : decode cX4_readArch 88 = .ok (.invokevirtual 65, 3) := by decide +kernel
theorem dX4_readArch_91 : decode cX4_readArch 91 = .ok (.ifCond .eq 7, 3) := by decide +kernel
theorem dX4_readArch_94 : decode cX4_readArch 94 = .ok (.iconst 1, 1) := by decide +kernel
theorem dX4_readArch_95 : decode cX4_readArch 95 = .ok (.goto 4, 3) := by decide +kernel
theorem dX4_readArch_98 : decode cX4_readArch 98 = .ok (.iconst 0, 1) := by decide +kernel
theorem dX4_readArch_99 : decode cX4_readArch 99 = .ok (.ireturn, 1) := by decide +kernel
theorem yv_X4_readArch : YV yX4_readArch cX4_readArch 3 (some .boolean) 2 := ⟨m467, ms7, m4, m468, ⟨by decide +kernel, by decide +kernel, by decide +kernel⟩, by decide⟩
noncomputable def f_X4_readArch (q : Nat) (r1 : Nat) (x2 : Int32) (h : AH) : Option (Int32 × AH) := bd (f_X6_step r1 h) (fun _ h_1 => bd (f_X2_charterPlace 0 x2 h_1) (fun v_6 h_5 => bd (f_X4_readNumber q r1 0 4 (q + 1 + 2) 12 v_6 h_5) (fun v_8 h_7 => if v_8 = 0 then (some (0, h_7)) else (bd (f_X2_charterPlace 1 x2 h_7) (fun v_12 h_11 => bd (f_X4_readNumber q r1 0 4 (q + 1 + 2) 12 v_12 h_11) (fun v_14 h_13 => if v_14 = 0 then (some (0, h_13)) else (bd (f_X4_readNumber q r1 1 30 (q + 1 + 3) 6 x2 h_13) (fun v_18 h_17 => if v_18 = 0 then (some (0, h_17)) else (bd (f_X4_readNumber q r1 0 9 (q + 1 + 4) 6 x2 h_17) (fun v_22 h_21 => if v_22 = 0 then (some (0, h_21)) else (bd (f_X4_readSign q r1 h_21) (fun v_24 h_23 => if v_24 = 0 then (some (0, h_23)) else (some (1, h_23))))))))))))))
set_option maxRecDepth 20000 in
set_option maxHeartbeats 4000000 in
theorem ct_X4_readArch (l : Launch) (g : GC) {q : Nat} (hq : (gL g)[q]? = some (.inl 4)) {r1 : Nat} (hr1 : (gL g)[r1]? = some (.inl 6)) (x2 : Int32) : Ct l yX4_readArch cX4_readArch 3 (some .boolean) 4 [.ref (gad g q), .ref (gad g r1), .int x2] g mkI (fun h => f_X4_readArch q r1 x2 h) := by
  refine Ct.of (by decide +kernel) (Nat.le_of_ble_eq_true rfl) (fun z A h _ F => ?_)
  show Snd z 3 g A (QF z g A mkI) 0 [(0, .ref (gad g q)), (1, .ref (gad g r1)), (2, .int x2)] [] h (f_X4_readArch q r1 x2 h)
  unfold f_X4_readArch
  refine s_aload_n F dX4_readArch_0 rfl 1 rfl ?_
  refine s_callVu (f := fun hh => f_X6_step r1 hh) (As := []) F yv_X6_step (ct_X6_step z.2.1 g hr1) (by decide) m439 hr1 rfl rfl rfl (Nat.le_of_ble_eq_true rfl) dX4_readArch_1 (fun _ h_1 e_v_2 => ?_)
  refine s_aload_n F dX4_readArch_4 rfl 0 rfl ?_
  refine s_aload_n F dX4_readArch_5 rfl 1 rfl ?_
  refine s_iconst F (v := 0) dX4_readArch_6 (by decide) ?_
  refine s_iconst F (v := 4) dX4_readArch_7 (by decide) ?_
  refine s_aload_n F dX4_readArch_8 rfl 0 rfl ?_
  have hw_3 := wf_ref F.2.2.2.2.2.2.1 hq 0 1 (.inl 2) rfl
  refine s_getr F ciX4 0 1 (.inl 2) hq (by decide) rfl rfl m152 dX4_readArch_9 ?_
  have hw_4 := wf_ref F.2.2.2.2.2.2.1 hw_3 8 2 (.inr (0, 12)) rfl
  refine s_getrN F ciX2 8 2 (.inr (0, 12)) hw_3 (by decide) rfl rfl (List.mem_of_getElem? (i := 25) rfl) dX4_readArch_12 ?_
  refine s_iconst F (v := 0) dX4_readArch_15 (by decide) ?_
  refine s_iload_n F dX4_readArch_16 rfl 2 rfl ?_
  refine s_callSi (f := fun hh => f_X2_charterPlace 0 x2 hh) (As := [.int 0, .int x2]) F ys_X2_charterPlace (ct_X2_charterPlace z.2.1 g 0 x2) (by decide) m469 rfl rfl (Nat.le_of_ble_eq_true rfl) dX4_readArch_17 (fun v_6 h_5 e_v_6 => ?_)
  refine s_callVi (f := fun hh => f_X4_readNumber q r1 0 4 (q + 1 + 2) 12 v_6 hh) (As := [.ref (gad g r1), .int 0, .int 4, .ref (gad g (q + 1 + 2)), .int v_6]) F yv_X4_readNumber (ct_X4_readNumber z.2.1 g hq hr1 0 4 hw_4 v_6) (by decide) m440 hq rfl rfl rfl (Nat.le_of_ble_eq_true rfl) dX4_readArch_20 (fun v_8 h_7 e_v_8 => ?_)
  refine s_if_eq F 98 dX4_readArch_23 (by decide) (fun _ => ?_) (fun _ => ?_)
  · refine s_iconst F (v := 0) dX4_readArch_98 (by decide) ?_
    exact s_zret1 F (by decide) dX4_readArch_99
  · refine s_aload_n F dX4_readArch_26 rfl 0 rfl ?_
    refine s_aload_n F dX4_readArch_27 rfl 1 rfl ?_
    refine s_iconst F (v := 0) dX4_readArch_28 (by decide) ?_
    refine s_iconst F (v := 4) dX4_readArch_29 (by decide) ?_
    refine s_aload_n F dX4_readArch_30 rfl 0 rfl ?_
    have hw_9 := wf_ref F.2.2.2.2.2.2.1 hq 0 1 (.inl 2) rfl
    refine s_getr F ciX4 0 1 (.inl 2) hq (by decide) rfl rfl m152 dX4_readArch_31 ?_
    have hw_10 := wf_ref F.2.2.2.2.2.2.1 hw_9 8 2 (.inr (0, 12)) rfl
    refine s_getrN F ciX2 8 2 (.inr (0, 12)) hw_9 (by decide) rfl rfl (List.mem_of_getElem? (i := 25) rfl) dX4_readArch_34 ?_
    refine s_iconst F (v := 1) dX4_readArch_37 (by decide) ?_
    refine s_iload_n F dX4_readArch_38 rfl 2 rfl ?_
    refine s_callSi (f := fun hh => f_X2_charterPlace 1 x2 hh) (As := [.int 1, .int x2]) F ys_X2_charterPlace (ct_X2_charterPlace z.2.1 g 1 x2) (by decide) m469 rfl rfl (Nat.le_of_ble_eq_true rfl) dX4_readArch_39 (fun v_12 h_11 e_v_12 => ?_)
    refine s_callVi (f := fun hh => f_X4_readNumber q r1 0 4 (q + 1 + 2) 12 v_12 hh) (As := [.ref (gad g r1), .int 0, .int 4, .ref (gad g (q + 1 + 2)), .int v_12]) F yv_X4_readNumber (ct_X4_readNumber z.2.1 g hq hr1 0 4 hw_10 v_12) (by decide) m440 hq rfl rfl rfl (Nat.le_of_ble_eq_true rfl) dX4_readArch_42 (fun v_14 h_13 e_v_14 => ?_)
    refine s_if_eq F 98 dX4_readArch_45 (by decide) (fun _ => ?_) (fun _ => ?_)
    · refine s_iconst F (v := 0) dX4_readArch_98 (by decide) ?_
      exact s_zret1 F (by decide) dX4_readArch_99
    · refine s_aload_n F dX4_readArch_48 rfl 0 rfl ?_
      refine s_aload_n F dX4_readArch_49 rfl 1 rfl ?_
      refine s_iconst F (v := 1) dX4_readArch_50 (by decide) ?_
      refine s_bipush F (v := 30) dX4_readArch_51 (by decide) ?_
      refine s_aload_n F dX4_readArch_53 rfl 0 rfl ?_
      have hw_15 := wf_ref F.2.2.2.2.2.2.1 hq 0 1 (.inl 2) rfl
      refine s_getr F ciX4 0 1 (.inl 2) hq (by decide) rfl rfl m152 dX4_readArch_54 ?_
      have hw_16 := wf_ref F.2.2.2.2.2.2.1 hw_15 9 3 (.inr (0, 6)) rfl
      refine s_getrN F ciX2 9 3 (.inr (0, 6)) hw_15 (by decide) rfl rfl (List.mem_of_getElem? (i := 26) rfl) dX4_readArch_57 ?_
      refine s_iload_n F dX4_readArch_60 rfl 2 rfl ?_
      refine s_callVi (f := fun hh => f_X4_readNumber q r1 1 30 (q + 1 + 3) 6 x2 hh) (As := [.ref (gad g r1), .int 1, .int 30, .ref (gad g (q + 1 + 3)), .int x2]) F yv_X4_readNumber (ct_X4_readNumber z.2.1 g hq hr1 1 30 hw_16 x2) (by decide) m440 hq rfl rfl rfl (Nat.le_of_ble_eq_true rfl) dX4_readArch_61 (fun v_18 h_17 e_v_18 => ?_)
      refine s_if_eq F 98 dX4_readArch_64 (by decide) (fun _ => ?_) (fun _ => ?_)
      · refine s_iconst F (v := 0) dX4_readArch_98 (by decide) ?_
        exact s_zret1 F (by decide) dX4_readArch_99
      · refine s_aload_n F dX4_readArch_67 rfl 0 rfl ?_
        refine s_aload_n F dX4_readArch_68 rfl 1 rfl ?_
        refine s_iconst F (v := 0) dX4_readArch_69 (by decide) ?_
        refine s_bipush F (v := 9) dX4_readArch_70 (by decide) ?_
        refine s_aload_n F dX4_readArch_72 rfl 0 rfl ?_
        have hw_19 := wf_ref F.2.2.2.2.2.2.1 hq 0 1 (.inl 2) rfl
        refine s_getr F ciX4 0 1 (.inl 2) hq (by decide) rfl rfl m152 dX4_readArch_73 ?_
        have hw_20 := wf_ref F.2.2.2.2.2.2.1 hw_19 10 4 (.inr (0, 6)) rfl
        refine s_getrN F ciX2 10 4 (.inr (0, 6)) hw_19 (by decide) rfl rfl (List.mem_of_getElem? (i := 27) rfl) dX4_readArch_76 ?_
        refine s_iload_n F dX4_readArch_79 rfl 2 rfl ?_
        refine s_callVi (f := fun hh => f_X4_readNumber q r1 0 9 (q + 1 + 4) 6 x2 hh) (As := [.ref (gad g r1), .int 0, .int 9, .ref (gad g (q + 1 + 4)), .int x2]) F yv_X4_readNumber (ct_X4_readNumber z.2.1 g hq hr1 0 9 hw_20 x2) (by decide) m440 hq rfl rfl rfl (Nat.le_of_ble_eq_true rfl) dX4_readArch_80 (fun v_22 h_21 e_v_22 => ?_)
        refine s_if_eq F 98 dX4_readArch_83 (by decide) (fun _ => ?_) (fun _ => ?_)
        · refine s_iconst F (v := 0) dX4_readArch_98 (by decide) ?_
          exact s_zret1 F (by decide) dX4_readArch_99
        · refine s_aload_n F dX4_readArch_86 rfl 0 rfl ?_
          refine s_aload_n F dX4_readArch_87 rfl 1 rfl ?_
          refine s_callVi (f := fun hh => f_X4_readSign q r1 hh) (As := [.ref (gad g r1)]) F yv_X4_readSign (ct_X4_readSign z.2.1 g hq hr1) (by decide) m452 hq rfl rfl rfl (Nat.le_of_ble_eq_true rfl) dX4_readArch_88 (fun v_24 h_23 e_v_24 => ?_)
          refine s_if_eq F 98 dX4_readArch_91 (by decide) (fun _ => ?_) (fun _ => ?_)
          · refine s_iconst F (v := 0) dX4_readArch_98 (by decide) ?_
            exact s_zret1 F (by decide) dX4_readArch_99
          · refine s_iconst F (v := 1) dX4_readArch_94 (by decide) ?_
            refine s_goto F 99 dX4_readArch_95 (by decide) ?_
            exact s_zret1 F (by decide) dX4_readArch_99
theorem dX6_isWord_0 : decode cX6_isWord 0 = .ok (.aload_n 0, 1) := by decide +kernel
theorem dX6_isWord_1 : decode cX6_isWord 1 = .ok (.getfield 34, 3) := by decide +kernel
theorem dX6_isWord_4 : decode cX6_isWord 4 = .ok (.iconst 1, 1) := by decide +kernel
theorem dX6_isWord_5 : decode cX6_isWord 5 = .ok (.if_icmp .ne 19, 3) := by decide +kernel
theorem dX6_isWord_8 : decode cX6_isWord 8 = .ok (.aload_n 0, 1) := by decide +kernel
theorem dX6_isWord_9 : decode cX6_isWord 9 = .ok (.getfield 20, 3) := by decide +kernel
theorem dX6_isWord_12 : decode cX6_isWord 12 = .ok (.aload_n 0, 1) := by decide +kernel
theorem dX6_isWord_13 : decode cX6_isWord 13 = .ok (.getfield 17, 3) := by decide +kernel
theorem dX6_isWord_16 : decode cX6_isWord 16 = .ok (.isub, 1) := by decide +kernel
theorem dX6_isWord_17 : decode cX6_isWord 17 = .ok (.aload_n 1, 1) := by decide +kernel
theorem dX6_isWord_18 : decode cX6_isWord 18 = .ok (.invokevirtual 37, 3) := by decide +kernel
theorem dX6_isWord_21 : decode cX6_isWord 21 = .ok (.if_icmp .eq 5, 3) := by decide +kernel
theorem dX6_isWord_24 : decode cX6_isWord 24 = .ok (.iconst 0, 1) := by decide +kernel
theorem dX6_isWord_25 : decode cX6_isWord 25 = .ok (.ireturn, 1) := by decide +kernel
theorem dX6_isWord_26 : decode cX6_isWord 26 = .ok (.iconst 0, 1) := by decide +kernel
theorem dX6_isWord_27 : decode cX6_isWord 27 = .ok (.istore_n 2, 1) := by decide +kernel
theorem dX6_isWord_28 : decode cX6_isWord 28 = .ok (.iload_n 2, 1) := by decide +kernel
theorem dX6_isWord_29 : decode cX6_isWord 29 = .ok (.aload_n 1, 1) := by decide +kernel
theorem dX6_isWord_30 : decode cX6_isWord 30 = .ok (.invokevirtual 37, 3) := by decide +kernel
theorem dX6_isWord_33 : decode cX6_isWord 33 = .ok (.if_icmp .ge 30, 3) := by decide +kernel
theorem dX6_isWord_36 : decode cX6_isWord 36 = .ok (.aload_n 0, 1) := by decide +kernel
theorem dX6_isWord_37 : decode cX6_isWord 37 = .ok (.getfield 9, 3) := by decide +kernel
theorem dX6_isWord_40 : decode cX6_isWord 40 = .ok (.aload_n 0, 1) := by decide +kernel
theorem dX6_isWord_41 : decode cX6_isWord 41 = .ok (.getfield 17, 3) := by decide +kernel
theorem dX6_isWord_44 : decode cX6_isWord 44 = .ok (.iload_n 2, 1) := by decide +kernel
theorem dX6_isWord_45 : decode cX6_isWord 45 = .ok (.iadd, 1) := by decide +kernel
theorem dX6_isWord_46 : decode cX6_isWord 46 = .ok (.baload, 1) := by decide +kernel
theorem dX6_isWord_47 : decode cX6_isWord 47 = .ok (.aload_n 1, 1) := by decide +kernel
theorem dX6_isWord_48 : decode cX6_isWord 48 = .ok (.iload_n 2, 1) := by decide +kernel
theorem dX6_isWord_49 : decode cX6_isWord 49 = .ok (.invokevirtual 42, 3) := by decide +kernel
theorem dX6_isWord_52 : decode cX6_isWord 52 = .ok (.if_icmp .eq 5, 3) := by decide +kernel
theorem dX6_isWord_55 : decode cX6_isWord 55 = .ok (.iconst 0, 1) := by decide +kernel
theorem dX6_isWord_56 : decode cX6_isWord 56 = .ok (.ireturn, 1) := by decide +kernel
theorem dX6_isWord_57 : decode cX6_isWord 57 = .ok (.iinc 2 1, 3) := by decide +kernel
theorem dX6_isWord_60 : decode cX6_isWord 60 = .ok (.goto (-32), 3) := by decide +kernel
theorem dX6_isWord_63 : decode cX6_isWord 63 = .ok (.iconst 1, 1) := by decide +kernel
theorem dX6_isWord_64 : decode cX6_isWord 64 = .ok (.ireturn, 1) := by decide +kernel
theorem yv_X6_isWord : YV yX6_isWord cX6_isWord 3 (some .boolean) 1 := ⟨m384, m385, m3, m386, ⟨by decide +kernel, by decide +kernel, by decide +kernel⟩, by decide⟩
noncomputable def f_X6_isWord_28 (q r1 : Nat) : Nat → Int32 → AH → Option (Int32 × AH)
  | 0, _, _ => none
  | n + 1, x2, h => bd (f_J0_length_8abf5 r1 h) (fun v_2 h_1 => if v_2 ≤ x2 then (some (1, h_1)) else (lt (((h_1 q 3) + x2)) (fun v_4 => ck v_4 500 (bd (f_J0_charAt_5068e r1 x2 h_1) (fun v_6 h_5 => if (h_1 (q + 1) (v_4 : Int32).toNatClampNeg) = v_6 then (lt (x2 + 1) (fun v_7 => (f_X6_isWord_28 q r1 n) v_7 h_5)) else (some (0, h_5)))))))
set_option maxRecDepth 20000 in
set_option maxHeartbeats 4000000 in
theorem t_X6_isWord_28 {z : MC} {g : GC} {A : Nat → Prop} (F : Fx z cX6_isWord 3 RX6 (some .boolean) 5 g A) {q : Nat} (hq : (gL g)[q]? = some (.inl 6)) {r1 : Nat} (hr1 : r1 < 8) : ∀ (n : Nat) (x2 : Int32) (h : AH), Snd z 3 g A (QF z g A mkI) 28 [(0, .ref (gad g q)), (1, .ref (gK g r1)), (2, .int x2)] [] h (f_X6_isWord_28 q r1 n x2 h) := by
  intro n
  induction n with
  | zero => intros; exact s_none
  | succ n ih =>
    intro x2 h
    unfold f_X6_isWord_28
    refine s_iload_n F dX6_isWord_28 rfl 2 rfl ?_
    refine s_aload_n F dX6_isWord_29 rfl 1 rfl ?_
    refine s_callK (f := fun hh => f_J0_length_8abf5 r1 hh) (As := []) F yv_J0_length_8abf5 (ct_J0_length_8abf5 z.2.1 g hr1) (by decide) m387 hr1 rfl rfl rfl (Nat.le_of_ble_eq_true rfl) dX6_isWord_30 (fun v_2 h_1 e_v_2 => ?_)
    refine s_icmp_ge F 63 dX6_isWord_33 (by decide) (fun _ => ?_) (fun _ => ?_)
    · refine s_iconst F (v := 1) dX6_isWord_63 (by decide) ?_
      exact s_zret1 F (by decide) dX6_isWord_64
    · refine s_aload_n F dX6_isWord_36 rfl 0 rfl ?_
      have hw_3 := wf_ref F.2.2.2.2.2.2.1 hq 0 1 (.inr (1, 500)) rfl
      refine s_getr F ciX6 0 1 (.inr (1, 500)) hq (by decide) rfl rfl m49 dX6_isWord_37 ?_
      refine s_aload_n F dX6_isWord_40 rfl 0 rfl ?_
      refine s_geti F ciX6 3 hq (by decide) rfl rfl m52 dX6_isWord_41 ?_
      refine s_iload_n F dX6_isWord_44 rfl 2 rfl ?_
      refine s_iadd F dX6_isWord_45 ?_
      refine s_leti (fun v_4 => ?_)
      refine s_bald F hw_3 dX6_isWord_46 ?_
      refine s_aload_n F dX6_isWord_47 rfl 1 rfl ?_
      refine s_iload_n F dX6_isWord_48 rfl 2 rfl ?_
      refine s_callK (f := fun hh => f_J0_charAt_5068e r1 x2 hh) (As := [.int x2]) F yv_J0_charAt_5068e (ct_J0_charAt_5068e z.2.1 g hr1 x2) (by decide) m397 hr1 rfl rfl rfl (Nat.le_of_ble_eq_true rfl) dX6_isWord_49 (fun v_6 h_5 e_v_6 => ?_)
      refine s_icmp_eq F 57 dX6_isWord_52 (by decide) (fun _ => ?_) (fun _ => ?_)
      · refine s_iincv F dX6_isWord_57 2 rfl (by decide) (c := 1) (by decide) (fun v_7 => ?_)
        refine s_lv (lv' := [(2, .int v_7), (0, .ref (gad g q)), (1, .ref (gK g r1))]) rfl ?_
        refine s_goto F 28 dX6_isWord_60 (by decide) ?_
        exact s_sub [1, 2, 0] rfl (ih v_7 h_5)
      · refine s_iconst F (v := 0) dX6_isWord_55 (by decide) ?_
        exact s_zret1 F (by decide) dX6_isWord_56
noncomputable def f_X6_isWord (q : Nat) (r1 : Nat) (h : AH) : Option (Int32 × AH) := if (h q 2) = 1 then (bd (f_J0_length_8abf5 r1 h) (fun v_2 h_1 => if ((h q 4) - (h q 3)) = v_2 then (f_X6_isWord_28 q r1 fu 0 h_1) else (some (0, h_1)))) else (some (0, h))
set_option maxRecDepth 20000 in
set_option maxHeartbeats 4000000 in
theorem ct_X6_isWord (l : Launch) (g : GC) {q : Nat} (hq : (gL g)[q]? = some (.inl 6)) {r1 : Nat} (hr1 : r1 < 8) : Ct l yX6_isWord cX6_isWord 3 (some .boolean) 5 [.ref (gad g q), .ref (gK g r1)] g mkI (fun h => f_X6_isWord q r1 h) := by
  refine Ct.of (by decide +kernel) (Nat.le_of_ble_eq_true rfl) (fun z A h _ F => ?_)
  show Snd z 3 g A (QF z g A mkI) 0 [(0, .ref (gad g q)), (1, .ref (gK g r1))] [] h (f_X6_isWord q r1 h)
  unfold f_X6_isWord
  refine s_aload_n F dX6_isWord_0 rfl 0 rfl ?_
  refine s_geti F ciX6 2 hq (by decide) rfl rfl m51 dX6_isWord_1 ?_
  refine s_iconst F (v := 1) dX6_isWord_4 (by decide) ?_
  refine s_icmp_ne F 24 dX6_isWord_5 (by decide) (fun _ => ?_) (fun _ => ?_)
  · refine s_iconst F (v := 0) dX6_isWord_24 (by decide) ?_
    exact s_zret1 F (by decide) dX6_isWord_25
  · refine s_aload_n F dX6_isWord_8 rfl 0 rfl ?_
    refine s_geti F ciX6 4 hq (by decide) rfl rfl m53 dX6_isWord_9 ?_
    refine s_aload_n F dX6_isWord_12 rfl 0 rfl ?_
    refine s_geti F ciX6 3 hq (by decide) rfl rfl m52 dX6_isWord_13 ?_
    refine s_isub F dX6_isWord_16 ?_
    refine s_aload_n F dX6_isWord_17 rfl 1 rfl ?_
    refine s_callK (f := fun hh => f_J0_length_8abf5 r1 hh) (As := []) F yv_J0_length_8abf5 (ct_J0_length_8abf5 z.2.1 g hr1) (by decide) m387 hr1 rfl rfl rfl (Nat.le_of_ble_eq_true rfl) dX6_isWord_18 (fun v_2 h_1 e_v_2 => ?_)
    refine s_icmp_eq F 26 dX6_isWord_21 (by decide) (fun _ => ?_) (fun _ => ?_)
    · refine s_iconst F (v := 0) dX6_isWord_26 (by decide) ?_
      refine s_istore_n F (lv' := [(2, .int 0), (0, .ref (gad g q)), (1, .ref (gK g r1))]) dX6_isWord_27 rfl (by decide) rfl ?_
      exact s_sub [1, 2, 0] rfl (t_X6_isWord_28 F hq hr1 fu 0 h_1)
    · refine s_iconst F (v := 0) dX6_isWord_24 (by decide) ?_
      exact s_zret1 F (by decide) dX6_isWord_25
theorem dX4_readArches_0 : decode cX4_readArches 0 = .ok (.aload_n 1, 1) := by decide +kernel
theorem dX4_readArches_1 : decode cX4_readArches 1 = .ok (.ldc 68, 2) := by decide +kernel
theorem dX4_readArches_3 : decode cX4_readArches 3 = .ok (.invokevirtual 46, 3) := by decide +kernel
theorem dX4_readArches_6 : decode cX4_readArches 6 = .ok (.ifCond .ne 9, 3) := by decide +kernel
theorem dX4_readArches_9 : decode cX4_readArches 9 = .ok (.aload_n 0, 1) := by decide +kernel
theorem dX4_readArches_10 : decode cX4_readArches 10 = .ok (.iconst 1, 1) := by decide +kernel
theorem dX4_readArches_11 : decode cX4_readArches 11 = .ok (.invokevirtual 50, 3) := by decide +kernel
theorem dX4_readArches_14 : decode cX4_readArches 14 = .ok (.ireturn, 1) := by decide +kernel
theorem dX4_readArches_15 : decode cX4_readArches 15 = .ok (.iconst 0, 1) := by decide +kernel
theorem dX4_readArches_16 : decode cX4_readArches 16 = .ok (.istore_n 2, 1) := by decide +kernel
theorem dX4_readArches_17 : decode cX4_readArches 17 = .ok (.iload_n 2, 1) := by decide +kernel
theorem dX4_readArches_18 : decode cX4_readArches 18 = .ok (.bipush 6, 2) := by decide +kernel
theorem dX4_readArches_20 : decode cX4_readArches 20 = .ok (.if_icmp .gt 66, 3) := by decide +kernel
theorem dX4_readArches_23 : decode cX4_readArches 23 = .ok (.aload_n 1, 1) := by decide +kernel
theorem dX4_readArches_24 : decode cX4_readArches 24 = .ok (.ldc 68, 2) := by decide +kernel
theorem dX4_readArches_26 : decode cX4_readArches 26 = .ok (.invokevirtual 46, 3) := by decide +kernel
theorem dX4_readArches_29 : decode cX4_readArches 29 = .ok (.ifCond .eq 57, 3) := by decide +kernel
theorem dX4_readArches_32 : decode cX4_readArches 32 = .ok (.aload_n 0, 1) := by decide +kernel
theorem dX4_readArches_33 : decode cX4_readArches 33 = .ok (.getfield 12, 3) := by decide +kernel
theorem dX4_readArches_36 : decode cX4_readArches 36 = .ok (.getfield 70, 3) := by decide +kernel
theorem dX4_readArches_39 : decode cX4_readArches 39 = .ok (.bipush 6, 2) := by decide +kernel
theorem dX4_readArches_41 : decode cX4_readArches 41 = .ok (.if_icmp .lt 9, 3) := by decide +kernel
theorem dX4_readArches_44 : decode cX4_readArches 44 = .ok (.aload_n 0, 1) := by decide +kernel
theorem dX4_readArches_45 : decode cX4_readArches 45 = .ok (.iconst 3, 1) := by decide +kernel
theorem dX4_readArches_46 : decode cX4_readArches 46 = .ok (.invokevirtual 50, 3) := by decide +kernel
theorem dX4_readArches_49 : decode cX4_readArches 49 = .ok (.ireturn, 1) := by decide +kernel
theorem dX4_readArches_50 : decode cX4_readArches 50 = .ok (.aload_n 0, 1) := by decide +kernel
theorem dX4_readArches_51 : decode cX4_readArches 51 = .ok (.aload_n 1, 1) := by decide +kernel
theorem dX4_readArches_52 : decode cX4_readArches 52 = .ok (.aload_n 0, 1) := by decide +kernel
theorem dX4_readArches_53 : decode cX4_readArches 53 = .ok (.getfield 12, 3) := by decide +kernel
theorem dX4_readArches_56 : decode cX4_readArches 56 = .ok (.getfield 70, 3) := by decide +kernel
theorem dX4_readArches_59 : decode cX4_readArches 59 = .ok (.invokevirtual 73, 3) := by decide +kernel
theorem dX4_readArches_62 : decode cX4_readArches 62 = .ok (.ifCond .ne 5, 3) := by decide +kernel
theorem dX4_readArches_65 : decode cX4_readArches 65 = .ok (.iconst 0, 1) := by decide +kernel
theorem dX4_readArches_66 : decode cX4_readArches 66 = .ok (.ireturn, 1) := by decide +kernel
theorem dX4_readArches_67 : decode cX4_readArches 67 = .ok (.aload_n 0, 1) := by decide +kernel
theorem dX4_readArches_68 : decode cX4_readArches 68 = .ok (.getfield 12, 3) := by decide +kernel
theorem dX4_readArches_71 : decode cX4_readArches 71 = .ok (.dup, 1) := by decide +kernel
theorem dX4_readArches_72 : decode cX4_readArches 72 = .ok (.getfield 70, 3) := by decide +kernel
theorem dX4_readArches_75 : decode cX4_readArches 75 = .ok (.iconst 1, 1) := by decide +kernel
theorem dX4_readArches_76 : decode cX4_readArches 76 = .ok (.iadd, 1) := by decide +kernel
theorem dX4_readArches_77 : decode cX4_readArches 77 = .ok (.putfield 70, 3) := by decide +kernel
theorem dX4_readArches_80 : decode cX4_readArches 80 = .ok (.iinc 2 1, 3) := by decide +kernel
theorem dX4_readArches_83 : decode cX4_readArches 83 = .ok (.goto (-66), 3) := by decide +kernel
theorem dX4_readArches_86 : decode cX4_readArches 86 = .ok (.iconst 1, 1) := by decide +kernel
theorem dX4_readArches_87 : decode cX4_readArches 87 = .ok (.ireturn, 1) := by decide +kernel
theorem yv_X4_readArches : YV yX4_readArches cX4_readArches 3 (some .boolean) 1 := ⟨m462, ms6, m4, m463, ⟨by decide +kernel, by decide +kernel, by decide +kernel⟩, by decide⟩
noncomputable def f_X4_readArches_17 (q r1 : Nat) : Nat → Int32 → AH → Option (Int32 × AH)
  | 0, _, _ => none
  | n + 1, x2, h => if (6 : Int32) < x2 then (some (1, h)) else (bd (f_X6_isWord r1 1 h) (fun v_2 h_1 => if v_2 = 0 then (some (1, h_1)) else (if (h_1 (q + 1) 1) < 6 then (bd (f_X4_readArch q r1 (h_1 (q + 1) 1) h_1) (fun v_6 h_5 => if v_6 = 0 then (some (0, h_5)) else (lt (hset h_5 (q + 1) 1 ((h_5 (q + 1) 1) + 1)) (fun h_8 => lt (x2 + 1) (fun v_9 => (f_X4_readArches_17 q r1 n) v_9 h_8))))) else (bd (f_X4_faulty q 3 h_1) (fun v_11 h_10 => gz v_11 (some (v_11, h_10)))))))
set_option maxRecDepth 20000 in
set_option maxHeartbeats 4000000 in
theorem t_X4_readArches_17 {z : MC} {g : GC} {A : Nat → Prop} (F : Fx z cX4_readArches 3 RX4 (some .boolean) 6 g A) {q : Nat} (hq : (gL g)[q]? = some (.inl 4)) {r1 : Nat} (hr1 : (gL g)[r1]? = some (.inl 6)) : ∀ (n : Nat) (x2 : Int32) (h : AH), Snd z 3 g A (QF z g A mkI) 17 [(0, .ref (gad g q)), (1, .ref (gad g r1)), (2, .int x2)] [] h (f_X4_readArches_17 q r1 n x2 h) := by
  intro n
  induction n with
  | zero => intros; exact s_none
  | succ n ih =>
    intro x2 h
    unfold f_X4_readArches_17
    refine s_iload_n F dX4_readArches_17 rfl 2 rfl ?_
    refine s_bipush F (v := 6) dX4_readArches_18 (by decide) ?_
    refine s_icmp_gt F 86 dX4_readArches_20 (by decide) (fun _ => ?_) (fun _ => ?_)
    · refine s_iconst F (v := 1) dX4_readArches_86 (by decide) ?_
      exact s_zret1 F (by decide) dX4_readArches_87
    · refine s_aload_n F dX4_readArches_23 rfl 1 rfl ?_
      refine s_ldcS F 1 (by decide) (show (ksi 1).1 = 68 from rfl) rfl dX4_readArches_24 ?_
      refine s_callVi (f := fun hh => f_X6_isWord r1 1 hh) (As := [.ref (gK g 1)]) F yv_X6_isWord (ct_X6_isWord z.2.1 g hr1 (by decide)) (by decide) m383 hr1 rfl rfl rfl (Nat.le_of_ble_eq_true rfl) dX4_readArches_26 (fun v_2 h_1 e_v_2 => ?_)
      refine s_if_eq F 86 dX4_readArches_29 (by decide) (fun _ => ?_) (fun _ => ?_)
      · refine s_iconst F (v := 1) dX4_readArches_86 (by decide) ?_
        exact s_zret1 F (by decide) dX4_readArches_87
      · refine s_aload_n F dX4_readArches_32 rfl 0 rfl ?_
        have hw_3 := wf_ref F.2.2.2.2.2.2.1 hq 0 1 (.inl 2) rfl
        refine s_getr F ciX4 0 1 (.inl 2) hq (by decide) rfl rfl m152 dX4_readArches_33 ?_
        refine s_getiN F ciX2 1 hw_3 (by decide) rfl rfl (List.mem_of_getElem? (i := 24) rfl) dX4_readArches_36 ?_
        refine s_bipush F (v := 6) dX4_readArches_39 (by decide) ?_
        refine s_icmp_lt F 50 dX4_readArches_41 (by decide) (fun _ => ?_) (fun _ => ?_)
        · refine s_aload_n F dX4_readArches_50 rfl 0 rfl ?_
          refine s_aload_n F dX4_readArches_51 rfl 1 rfl ?_
          refine s_aload_n F dX4_readArches_52 rfl 0 rfl ?_
          have hw_4 := wf_ref F.2.2.2.2.2.2.1 hq 0 1 (.inl 2) rfl
          refine s_getr F ciX4 0 1 (.inl 2) hq (by decide) rfl rfl m152 dX4_readArches_53 ?_
          refine s_getiN F ciX2 1 hw_4 (by decide) rfl rfl (List.mem_of_getElem? (i := 24) rfl) dX4_readArches_56 ?_
          refine s_callVi (f := fun hh => f_X4_readArch q r1 (h_1 (q + 1) 1) hh) (As := [.ref (gad g r1), .int (h_1 (q + 1) 1)]) F yv_X4_readArch (ct_X4_readArch z.2.1 g hq hr1 (h_1 (q + 1) 1)) (by decide) m465 hq rfl rfl rfl (Nat.le_of_ble_eq_true rfl) dX4_readArches_59 (fun v_6 h_5 e_v_6 => ?_)
          refine s_if_ne F 67 dX4_readArches_62 (by decide) (fun _ => ?_) (fun _ => ?_)
          · refine s_aload_n F dX4_readArches_67 rfl 0 rfl ?_
            have hw_7 := wf_ref F.2.2.2.2.2.2.1 hq 0 1 (.inl 2) rfl
            refine s_getr F ciX4 0 1 (.inl 2) hq (by decide) rfl rfl m152 dX4_readArches_68 ?_
            refine s_dup F dX4_readArches_71 rfl ?_
            refine s_getiN F ciX2 1 hw_7 (by decide) rfl rfl (List.mem_of_getElem? (i := 24) rfl) dX4_readArches_72 ?_
            refine s_iconst F (v := 1) dX4_readArches_75 (by decide) ?_
            refine s_iadd F dX4_readArches_76 ?_
            refine s_putN F ciX2 (k := 1) hw_7 (by decide) rfl rfl rfl rfl (List.mem_of_getElem? (i := 24) rfl) dX4_readArches_77 ?_
            refine s_letH (fun h_8 => ?_)
            refine s_iincv F dX4_readArches_80 2 rfl (by decide) (c := 1) (by decide) (fun v_9 => ?_)
            refine s_lv (lv' := [(2, .int v_9), (0, .ref (gad g q)), (1, .ref (gad g r1))]) rfl ?_
            refine s_goto F 17 dX4_readArches_83 (by decide) ?_
            exact s_sub [1, 2, 0] rfl (ih v_9 h_8)
          · refine s_iconst F (v := 0) dX4_readArches_65 (by decide) ?_
            exact s_zret1 F (by decide) dX4_readArches_66
        · refine s_aload_n F dX4_readArches_44 rfl 0 rfl ?_
          refine s_iconst F (v := 3) dX4_readArches_45 (by decide) ?_
          refine s_callVi (f := fun hh => f_X4_faulty q 3 hh) (As := [.int 3]) F yv_X4_faulty (ct_X4_faulty z.2.1 g hq 3) (by decide) m435 hq rfl rfl rfl (Nat.le_of_ble_eq_true rfl) dX4_readArches_46 (fun v_11 h_10 e_v_11 => ?_)
          exact s_zret F dX4_readArches_49
noncomputable def f_X4_readArches (q : Nat) (r1 : Nat) (h : AH) : Option (Int32 × AH) := bd (f_X6_isWord r1 1 h) (fun v_2 h_1 => if v_2 = 0 then (bd (f_X4_faulty q 1 h_1) (fun v_4 h_3 => gz v_4 (some (v_4, h_3)))) else (f_X4_readArches_17 q r1 fu 0 h_1))
set_option maxRecDepth 20000 in
set_option maxHeartbeats 4000000 in
theorem ct_X4_readArches (l : Launch) (g : GC) {q : Nat} (hq : (gL g)[q]? = some (.inl 4)) {r1 : Nat} (hr1 : (gL g)[r1]? = some (.inl 6)) : Ct l yX4_readArches cX4_readArches 3 (some .boolean) 6 [.ref (gad g q), .ref (gad g r1)] g mkI (fun h => f_X4_readArches q r1 h) := by
  refine Ct.of (by decide +kernel) (Nat.le_of_ble_eq_true rfl) (fun z A h _ F => ?_)
  show Snd z 3 g A (QF z g A mkI) 0 [(0, .ref (gad g q)), (1, .ref (gad g r1))] [] h (f_X4_readArches q r1 h)
  unfold f_X4_readArches
  refine s_aload_n F dX4_readArches_0 rfl 1 rfl ?_
  refine s_ldcS F 1 (by decide) (show (ksi 1).1 = 68 from rfl) rfl dX4_readArches_1 ?_
  refine s_callVi (f := fun hh => f_X6_isWord r1 1 hh) (As := [.ref (gK g 1)]) F yv_X6_isWord (ct_X6_isWord z.2.1 g hr1 (by decide)) (by decide) m383 hr1 rfl rfl rfl (Nat.le_of_ble_eq_true rfl) dX4_readArches_3 (fun v_2 h_1 e_v_2 => ?_)
  refine s_if_ne F 15 dX4_readArches_6 (by decide) (fun _ => ?_) (fun _ => ?_)
  · refine s_iconst F (v := 0) dX4_readArches_15 (by decide) ?_
    refine s_istore_n F (lv' := [(2, .int 0), (0, .ref (gad g q)), (1, .ref (gad g r1))]) dX4_readArches_16 rfl (by decide) rfl ?_
    exact s_sub [1, 2, 0] rfl (t_X4_readArches_17 F hq hr1 fu 0 h_1)
  · refine s_aload_n F dX4_readArches_9 rfl 0 rfl ?_
    refine s_iconst F (v := 1) dX4_readArches_10 (by decide) ?_
    refine s_callVi (f := fun hh => f_X4_faulty q 1 hh) (As := [.int 1]) F yv_X4_faulty (ct_X4_faulty z.2.1 g hq 1) (by decide) m435 hq rfl rfl rfl (Nat.le_of_ble_eq_true rfl) dX4_readArches_11 (fun v_4 h_3 e_v_4 => ?_)
    exact s_zret F dX4_readArches_14
theorem dX4_sortTold_0 : decode cX4_sortTold 0 = .ok (.aload_n 1, 1) := by decide +kernel
theorem dX4_sortTold_1 : decode cX4_sortTold 1 = .ok (.ldc 118, 2) := by decide +kernel
theorem dX4_sortTold_3 : decode cX4_sortTold 3 = .ok (.invokevirtual 46, 3) := by decide +kernel
theorem dX4_sortTold_6 : decode cX4_sortTold 6 = .ok (.ifCond .eq 5, 3) := by decide +kernel
theorem dX4_sortTold_9 : decode cX4_sortTold 9 = .ok (.iconst 1, 1) := by decide +kernel
theorem dX4_sortTold_10 : decode cX4_sortTold 10 = .ok (.ireturn, 1) := by decide +kernel
theorem dX4_sortTold_11 : decode cX4_sortTold 11 = .ok (.aload_n 1, 1) := by decide +kernel
theorem dX4_sortTold_12 : decode cX4_sortTold 12 = .ok (.ldc 120, 2) := by decide +kernel
theorem dX4_sortTold_14 : decode cX4_sortTold 14 = .ok (.invokevirtual 46, 3) := by decide +kernel
theorem dX4_sortTold_17 : decode cX4_sortTold 17 = .ok (.ifCond .eq 5, 3) := by decide +kernel
theorem dX4_sortTold_20 : decode cX4_sortTold 20 = .ok (.iconst 2, 1) := by decide +kernel
theorem dX4_sortTold_21 : decode cX4_sortTold 21 = .ok (.ireturn, 1) := by decide +kernel
theorem dX4_sortTold_22 : decode cX4_sortTold 22 = .ok (.aload_n 1, 1) := by decide +kernel
theorem dX4_sortTold_23 : decode cX4_sortTold 23 = .ok (.ldc 122, 2) := by decide +kernel
theorem dX4_sortTold_25 : decode cX4_sortTold 25 = .ok (.invokevirtual 46, 3) := by decide +kernel
theorem dX4_sortTold_28 : decode cX4_sortTold 28 = .ok (.ifCond .eq 5, 3) := by decide +kernel
theorem dX4_sortTold_31 : decode cX4_sortTold 31 = .ok (.iconst 3, 1) := by decide +kernel
theorem dX4_sortTold_32 : decode cX4_sortTold 32 = .ok (.ireturn, 1) := by decide +kernel
theorem dX4_sortTold_33 : decode cX4_sortTold 33 = .ok (.aload_n 1, 1) := by decide +kernel
theorem dX4_sortTold_34 : decode cX4_sortTold 34 = .ok (.ldc 124, 2) := by decide +kernel
theorem dX4_sortTold_36 : decode cX4_sortTold 36 = .ok (.invokevirtual 46, 3) := by decide +kernel
theorem dX4_sortTold_39 : decode cX4_sortTold 39 = .ok (.ifCond .eq 5, 3) := by decide +kernel
theorem dX4_sortTold_42 : decode cX4_sortTold 42 = .ok (.iconst 4, 1) := by decide +kernel
theorem dX4_sortTold_43 : decode cX4_sortTold 43 = .ok (.ireturn, 1) := by decide +kernel
theorem dX4_sortTold_44 : decode cX4_sortTold 44 = .ok (.aload_n 1, 1) := by decide +kernel
theorem dX4_sortTold_45 : decode cX4_sortTold 45 = .ok (.ldc 126, 2) := by decide +kernel
theorem dX4_sortTold_47 : decode cX4_sortTold 47 = .ok (.invokevirtual 46, 3) := by decide +kernel
theorem dX4_sortTold_50 : decode cX4_sortTold 50 = .ok (.ifCond .eq 7, 3) := by decide +kernel
theorem dX4_sortTold_53 : decode cX4_sortTold 53 = .ok (.iconst 5, 1) := by decide +kernel
theorem dX4_sortTold_54 : decode cX4_sortTold 54 = .ok (.goto 4, 3) := by decide +kernel
theorem dX4_sortTold_57 : decode cX4_sortTold 57 = .ok (.iconst 0, 1) := by decide +kernel
theorem dX4_sortTold_58 : decode cX4_sortTold 58 = .ok (.ireturn, 1) := by decide +kernel
theorem yv_X4_sortTold : YV yX4_sortTold cX4_sortTold 2 (some .int) 1 := ⟨m483, ms10, m4, m484, ⟨by decide +kernel, by decide +kernel, by decide +kernel⟩, by decide⟩
noncomputable def f_X4_sortTold (q : Nat) (r1 : Nat) (h : AH) : Option (Int32 × AH) := bd (f_X6_isWord r1 3 h) (fun v_2 h_1 => if v_2 = 0 then (bd (f_X6_isWord r1 4 h_1) (fun v_4 h_3 => if v_4 = 0 then (bd (f_X6_isWord r1 5 h_3) (fun v_6 h_5 => if v_6 = 0 then (bd (f_X6_isWord r1 6 h_5) (fun v_8 h_7 => if v_8 = 0 then (bd (f_X6_isWord r1 7 h_7) (fun v_10 h_9 => if v_10 = 0 then (some (0, h_9)) else (some (5, h_9)))) else (some (4, h_7)))) else (some (3, h_5)))) else (some (2, h_3)))) else (some (1, h_1)))
set_option maxRecDepth 20000 in
set_option maxHeartbeats 4000000 in
theorem ct_X4_sortTold (l : Launch) (g : GC) {q : Nat} (hq : (gL g)[q]? = some (.inl 4)) {r1 : Nat} (hr1 : (gL g)[r1]? = some (.inl 6)) : Ct l yX4_sortTold cX4_sortTold 2 (some .int) 6 [.ref (gad g q), .ref (gad g r1)] g mkI (fun h => f_X4_sortTold q r1 h) := by
  refine Ct.of (by decide +kernel) (Nat.le_of_ble_eq_true rfl) (fun z A h _ F => ?_)
  show Snd z 2 g A (QF z g A mkI) 0 [(0, .ref (gad g q)), (1, .ref (gad g r1))] [] h (f_X4_sortTold q r1 h)
  unfold f_X4_sortTold
  refine s_aload_n F dX4_sortTold_0 rfl 1 rfl ?_
  refine s_ldcS F 3 (by decide) (show (ksi 3).1 = 118 from rfl) rfl dX4_sortTold_1 ?_
  refine s_callVi (f := fun hh => f_X6_isWord r1 3 hh) (As := [.ref (gK g 3)]) F yv_X6_isWord (ct_X6_isWord z.2.1 g hr1 (by decide)) (by decide) m383 hr1 rfl rfl rfl (Nat.le_of_ble_eq_true rfl) dX4_sortTold_3 (fun v_2 h_1 e_v_2 => ?_)
  refine s_if_eq F 11 dX4_sortTold_6 (by decide) (fun _ => ?_) (fun _ => ?_)
  · refine s_aload_n F dX4_sortTold_11 rfl 1 rfl ?_
    refine s_ldcS F 4 (by decide) (show (ksi 4).1 = 120 from rfl) rfl dX4_sortTold_12 ?_
    refine s_callVi (f := fun hh => f_X6_isWord r1 4 hh) (As := [.ref (gK g 4)]) F yv_X6_isWord (ct_X6_isWord z.2.1 g hr1 (by decide)) (by decide) m383 hr1 rfl rfl rfl (Nat.le_of_ble_eq_true rfl) dX4_sortTold_14 (fun v_4 h_3 e_v_4 => ?_)
    refine s_if_eq F 22 dX4_sortTold_17 (by decide) (fun _ => ?_) (fun _ => ?_)
    · refine s_aload_n F dX4_sortTold_22 rfl 1 rfl ?_
      refine s_ldcS F 5 (by decide) (show (ksi 5).1 = 122 from rfl) rfl dX4_sortTold_23 ?_
      refine s_callVi (f := fun hh => f_X6_isWord r1 5 hh) (As := [.ref (gK g 5)]) F yv_X6_isWord (ct_X6_isWord z.2.1 g hr1 (by decide)) (by decide) m383 hr1 rfl rfl rfl (Nat.le_of_ble_eq_true rfl) dX4_sortTold_25 (fun v_6 h_5 e_v_6 => ?_)
      refine s_if_eq F 33 dX4_sortTold_28 (by decide) (fun _ => ?_) (fun _ => ?_)
      · refine s_aload_n F dX4_sortTold_33 rfl 1 rfl ?_
        refine s_ldcS F 6 (by decide) (show (ksi 6).1 = 124 from rfl) rfl dX4_sortTold_34 ?_
        refine s_callVi (f := fun hh => f_X6_isWord r1 6 hh) (As := [.ref (gK g 6)]) F yv_X6_isWord (ct_X6_isWord z.2.1 g hr1 (by decide)) (by decide) m383 hr1 rfl rfl rfl (Nat.le_of_ble_eq_true rfl) dX4_sortTold_36 (fun v_8 h_7 e_v_8 => ?_)
        refine s_if_eq F 44 dX4_sortTold_39 (by decide) (fun _ => ?_) (fun _ => ?_)
        · refine s_aload_n F dX4_sortTold_44 rfl 1 rfl ?_
          refine s_ldcS F 7 (by decide) (show (ksi 7).1 = 126 from rfl) rfl dX4_sortTold_45 ?_
          refine s_callVi (f := fun hh => f_X6_isWord r1 7 hh) (As := [.ref (gK g 7)]) F yv_X6_isWord (ct_X6_isWord z.2.1 g hr1 (by decide)) (by decide) m383 hr1 rfl rfl rfl (Nat.le_of_ble_eq_true rfl) dX4_sortTold_47 (fun v_10 h_9 e_v_10 => ?_)
          refine s_if_eq F 57 dX4_sortTold_50 (by decide) (fun _ => ?_) (fun _ => ?_)
          · refine s_iconst F (v := 0) dX4_sortTold_57 (by decide) ?_
            exact s_iret F dX4_sortTold_58
          · refine s_iconst F (v := 5) dX4_sortTold_53 (by decide) ?_
            refine s_goto F 58 dX4_sortTold_54 (by decide) ?_
            exact s_iret F dX4_sortTold_58
        · refine s_iconst F (v := 4) dX4_sortTold_42 (by decide) ?_
          exact s_iret F dX4_sortTold_43
      · refine s_iconst F (v := 3) dX4_sortTold_31 (by decide) ?_
        exact s_iret F dX4_sortTold_32
    · refine s_iconst F (v := 2) dX4_sortTold_20 (by decide) ?_
      exact s_iret F dX4_sortTold_21
  · refine s_iconst F (v := 1) dX4_sortTold_9 (by decide) ?_
    exact s_iret F dX4_sortTold_10
theorem dX4_readBoat_0 : decode cX4_readBoat 0 = .ok (.aload_n 1, 1) := by decide +kernel
theorem dX4_readBoat_1 : decode cX4_readBoat 1 = .ok (.invokevirtual 54, 3) := by decide +kernel
theorem dX4_readBoat_4 : decode cX4_readBoat 4 = .ok (.aload_n 0, 1) := by decide +kernel
theorem dX4_readBoat_5 : decode cX4_readBoat 5 = .ok (.aload_n 1, 1) := by decide +kernel
theorem dX4_readBoat_6 : decode cX4_readBoat 6 = .ok (.invokevirtual 102, 3) := by decide +kernel
theorem dX4_readBoat_9 : decode cX4_readBoat 9 = .ok (.istore_n 3, 1) := by decide +kernel
theorem dX4_readBoat_10 : decode cX4_readBoat 10 = .ok (.iload_n 3, 1) := by decide +kernel
theorem dX4_readBoat_11 : decode cX4_readBoat 11 = .ok (.ifCond .ne 9, 3) := by decide +kernel
theorem dX4_readBoat_14 : decode cX4_readBoat 14 = .ok (.aload_n 0, 1) := by decide +kernel
theorem dX4_readBoat_15 : decode cX4_readBoat 15 = .ok (.iconst 1, 1) := by decide +kernel
theorem dX4_readBoat_16 : decode cX4_readBoat 16 = .ok (.invokevirtual 50, 3) := by decide +kernel
theorem dX4_readBoat_19 : decode cX4_readBoat 19 = .ok (.ireturn, 1) := by decide +kernel
theorem dX4_readBoat_20 : decode cX4_readBoat 20 = .ok (.aload_n 0, 1) := by decide +kernel
theorem dX4_readBoat_21 : decode cX4_readBoat 21 = .ok (.getfield 12, 3) := by decide +kernel
theorem dX4_readBoat_24 : decode cX4_readBoat 24 = .ok (.getfield 106, 3) := by decide +kernel
theorem dX4_readBoat_27 : decode cX4_readBoat 27 = .ok (.iload_n 2, 1) := by decide +kernel
theorem dX4_readBoat_28 : decode cX4_readBoat 28 = .ok (.iload_n 3, 1) := by decide +kernel
theorem dX4_readBoat_29 : decode cX4_readBoat 29 = .ok (.iastore, 1) := by decide +kernel
theorem dX4_readBoat_30 : decode cX4_readBoat 30 = .ok (.aload_n 1, 1) := by decide +kernel
theorem dX4_readBoat_31 : decode cX4_readBoat 31 = .ok (.invokevirtual 54, 3) := by decide +kernel
theorem dX4_readBoat_34 : decode cX4_readBoat 34 = .ok (.aload_n 0, 1) := by decide +kernel
theorem dX4_readBoat_35 : decode cX4_readBoat 35 = .ok (.aload_n 1, 1) := by decide +kernel
theorem dX4_readBoat_36 : decode cX4_readBoat 36 = .ok (.iconst 0, 1) := by decide +kernel
theorem dX4_readBoat_37 : decode cX4_readBoat 37 = .ok (.bipush 20, 2) := by decide +kernel
theorem dX4_readBoat_39 : decode cX4_readBoat 39 = .ok (.aload_n 0, 1) := by decide +kernel
theorem dX4_readBoat_40 : decode cX4_readBoat 40 = .ok (.getfield 12, 3) := by decide +kernel
theorem dX4_readBoat_43 : decode cX4_readBoat 43 = .ok (.getfield 109, 3) := by decide +kernel
theorem dX4_readBoat_46 : decode cX4_readBoat 46 = .ok (.iload_n 2, 1) := by decide +kernel
theorem dX4_readBoat_47 : decode cX4_readBoat 47 = .ok (.invokevirtual 61, 3) := by decide +kernel
theorem dX4_readBoat_50 : decode cX4_readBoat 50 = .ok (.ifCond .ne 5, 3) := by decide +kernel
theorem dX4_readBoat_53 : decode cX4_readBoat 53 = .ok (.iconst 0, 1) := by decide +kernel
theorem dX4_readBoat_54 : decode cX4_readBoat 54 = .ok (.ireturn, 1) := by decide +kernel
theorem dX4_readBoat_55 : decode cX4_readBoat 55 = .ok (.iconst 0, 1) := by decide +kernel
theorem dX4_readBoat_56 : decode cX4_readBoat 56 = .ok (.istore 4, 2) := by decide +kernel
theorem dX4_readBoat_58 : decode cX4_readBoat 58 = .ok (.iload 4, 2) := by decide +kernel
theorem dX4_readBoat_60 : decode cX4_readBoat 60 = .ok (.iconst 4, 1) := by decide +kernel
theorem dX4_readBoat_61 : decode cX4_readBoat 61 = .ok (.if_icmp .ge 35, 3) := by decide +kernel
theorem dX4_readBoat_64 : decode cX4_readBoat 64 = .ok (.aload_n 0, 1) := by decide +kernel
theorem dX4_readBoat_65 : decode cX4_readBoat 65 = .ok (.aload_n 1, 1) := by decide +kernel
theorem dX4_readBoat_66 : decode cX4_readBoat 66 = .ok (.iconst 0, 1) := by decide +kernel
theorem dX4_readBoat_67 : decode cX4_readBoat 67 = .ok (.bipush 9, 2) := by decide +kernel
theorem dX4_readBoat_69 : decode cX4_readBoat 69 = .ok (.aload_n 0, 1) := by decide +kernel
theorem dX4_readBoat_70 : decode cX4_readBoat 70 = .ok (.getfield 12, 3) := by decide +kernel
theorem dX4_readBoat_73 : decode cX4_readBoat 73 = .ok (.getfield 112, 3) := by decide +kernel
theorem dX4_readBoat_76 : decode cX4_readBoat 76 = .ok (.iload_n 2, 1) := by decide +kernel
theorem dX4_readBoat_77 : decode cX4_readBoat 77 = .ok (.iload 4, 2) := by decide +kernel
theorem dX4_readBoat_79 : decode cX4_readBoat 79 = .ok (.invokestatic 115, 3) := by decide +kernel
theorem dX4_readBoat_82 : decode cX4_readBoat 82 = .ok (.invokevirtual 61, 3) := by decide +kernel
theorem dX4_readBoat_85 : decode cX4_readBoat 85 = .ok (.ifCond .ne 5, 3) := by decide +kernel
theorem dX4_readBoat_88 : decode cX4_readBoat 88 = .ok (.iconst 0, 1) := by decide +kernel
theorem dX4_readBoat_89 : decode cX4_readBoat 89 = .ok (.ireturn, 1) := by decide +kernel
theorem dX4_readBoat_90 : decode cX4_readBoat 90 = .ok (.iinc 4 1, 3) := by decide +kernel
theorem dX4_readBoat_93 : decode cX4_readBoat 93 = .ok (.goto (-35), 3) := by decide +kernel
theorem dX4_readBoat_96 : decode cX4_readBoat 96 = .ok (.aload_n 0, 1) := by decide +kernel
theorem dX4_readBoat_97 : decode cX4_readBoat 97 = .ok (.aload_n 1, 1) := by decide +kernel
theorem dX4_readBoat_98 : decode cX4_readBoat 98 = .ok (.invokevirtual 65, 3) := by decide +kernel
theorem dX4_readBoat_101 : decode cX4_readBoat 101 = .ok (.ireturn, 1) := by decide +kernel
theorem yv_X4_readBoat : YV yX4_readBoat cX4_readBoat 5 (some .boolean) 2 := ⟨m479, ms9, m4, m480, ⟨by decide +kernel, by decide +kernel, by decide +kernel⟩, by decide⟩
noncomputable def f_X4_readBoat_58 (q r1 : Nat) : Nat → Int32 → Int32 → AH → Option (Int32 × AH)
  | 0, _, _, _ => none
  | n + 1, x2, x4, h => if (4 : Int32) ≤ x4 then (bd (f_X4_readSign q r1 h) (fun v_2 h_1 => gz v_2 (some (v_2, h_1)))) else (bd (f_X2_loadPlace x2 x4 h) (fun v_6 h_5 => bd (f_X4_readNumber q r1 0 9 (q + 1 + 7) 24 v_6 h_5) (fun v_8 h_7 => if v_8 = 0 then (some (0, h_7)) else (lt (x4 + 1) (fun v_9 => (f_X4_readBoat_58 q r1 n) x2 v_9 h_7)))))
set_option maxRecDepth 20000 in
set_option maxHeartbeats 4000000 in
theorem t_X4_readBoat_58 {z : MC} {g : GC} {A : Nat → Prop} (F : Fx z cX4_readBoat 5 RX4 (some .boolean) 7 g A) {q : Nat} (hq : (gL g)[q]? = some (.inl 4)) {r1 : Nat} (hr1 : (gL g)[r1]? = some (.inl 6)) : ∀ (n : Nat) (x2 : Int32) (x4 : Int32) (h : AH), Snd z 5 g A (QF z g A mkI) 58 [(0, .ref (gad g q)), (1, .ref (gad g r1)), (2, .int x2), (4, .int x4)] [] h (f_X4_readBoat_58 q r1 n x2 x4 h) := by
  intro n
  induction n with
  | zero => intros; exact s_none
  | succ n ih =>
    intro x2 x4 h
    unfold f_X4_readBoat_58
    refine s_iload F dX4_readBoat_58 3 rfl ?_
    refine s_iconst F (v := 4) dX4_readBoat_60 (by decide) ?_
    refine s_icmp_ge F 96 dX4_readBoat_61 (by decide) (fun _ => ?_) (fun _ => ?_)
    · refine s_aload_n F dX4_readBoat_96 rfl 0 rfl ?_
      refine s_aload_n F dX4_readBoat_97 rfl 1 rfl ?_
      refine s_callVi (f := fun hh => f_X4_readSign q r1 hh) (As := [.ref (gad g r1)]) F yv_X4_readSign (ct_X4_readSign z.2.1 g hq hr1) (by decide) m452 hq rfl rfl rfl (Nat.le_of_ble_eq_true rfl) dX4_readBoat_98 (fun v_2 h_1 e_v_2 => ?_)
      exact s_zret F dX4_readBoat_101
    · refine s_aload_n F dX4_readBoat_64 rfl 0 rfl ?_
      refine s_aload_n F dX4_readBoat_65 rfl 1 rfl ?_
      refine s_iconst F (v := 0) dX4_readBoat_66 (by decide) ?_
      refine s_bipush F (v := 9) dX4_readBoat_67 (by decide) ?_
      refine s_aload_n F dX4_readBoat_69 rfl 0 rfl ?_
      have hw_3 := wf_ref F.2.2.2.2.2.2.1 hq 0 1 (.inl 2) rfl
      refine s_getr F ciX4 0 1 (.inl 2) hq (by decide) rfl rfl m152 dX4_readBoat_70 ?_
      have hw_4 := wf_ref F.2.2.2.2.2.2.1 hw_3 13 7 (.inr (0, 24)) rfl
      refine s_getrN F ciX2 13 7 (.inr (0, 24)) hw_3 (by decide) rfl rfl (List.mem_of_getElem? (i := 21) rfl) dX4_readBoat_73 ?_
      refine s_iload_n F dX4_readBoat_76 rfl 2 rfl ?_
      refine s_iload F dX4_readBoat_77 3 rfl ?_
      refine s_callSi (f := fun hh => f_X2_loadPlace x2 x4 hh) (As := [.int x2, .int x4]) F ys_X2_loadPlace (ct_X2_loadPlace z.2.1 g x2 x4) (by decide) m490 rfl rfl (Nat.le_of_ble_eq_true rfl) dX4_readBoat_79 (fun v_6 h_5 e_v_6 => ?_)
      refine s_callVi (f := fun hh => f_X4_readNumber q r1 0 9 (q + 1 + 7) 24 v_6 hh) (As := [.ref (gad g r1), .int 0, .int 9, .ref (gad g (q + 1 + 7)), .int v_6]) F yv_X4_readNumber (ct_X4_readNumber z.2.1 g hq hr1 0 9 hw_4 v_6) (by decide) m440 hq rfl rfl rfl (Nat.le_of_ble_eq_true rfl) dX4_readBoat_82 (fun v_8 h_7 e_v_8 => ?_)
      refine s_if_ne F 90 dX4_readBoat_85 (by decide) (fun _ => ?_) (fun _ => ?_)
      · refine s_iincv F dX4_readBoat_90 3 rfl (by decide) (c := 1) (by decide) (fun v_9 => ?_)
        refine s_lv (lv' := [(4, .int v_9), (0, .ref (gad g q)), (1, .ref (gad g r1)), (2, .int x2)]) rfl ?_
        refine s_goto F 58 dX4_readBoat_93 (by decide) ?_
        exact s_sub [1, 2, 3, 0] rfl (ih x2 v_9 h_7)
      · refine s_iconst F (v := 0) dX4_readBoat_88 (by decide) ?_
        exact s_zret1 F (by decide) dX4_readBoat_89
noncomputable def f_X4_readBoat (q : Nat) (r1 : Nat) (x2 : Int32) (h : AH) : Option (Int32 × AH) := bd (f_X6_step r1 h) (fun _ h_1 => bd (f_X4_sortTold q r1 h_1) (fun v_4 h_3 => if v_4 = 0 then (bd (f_X4_faulty q 1 h_3) (fun v_15 h_14 => gz v_15 (some (v_15, h_14)))) else (ck x2 6 (lt (hset h_3 (q + 1 + 5) (x2 : Int32).toNatClampNeg v_4) (fun h_7 => bd (f_X6_step r1 h_7) (fun _ h_8 => bd (f_X4_readNumber q r1 0 20 (q + 1 + 6) 6 x2 h_8) (fun v_13 h_12 => if v_13 = 0 then (some (0, h_12)) else (f_X4_readBoat_58 q r1 fu x2 0 h_12))))))))
set_option maxRecDepth 20000 in
set_option maxHeartbeats 4000000 in
theorem ct_X4_readBoat (l : Launch) (g : GC) {q : Nat} (hq : (gL g)[q]? = some (.inl 4)) {r1 : Nat} (hr1 : (gL g)[r1]? = some (.inl 6)) (x2 : Int32) : Ct l yX4_readBoat cX4_readBoat 5 (some .boolean) 7 [.ref (gad g q), .ref (gad g r1), .int x2] g mkI (fun h => f_X4_readBoat q r1 x2 h) := by
  refine Ct.of (by decide +kernel) (Nat.le_of_ble_eq_true rfl) (fun z A h _ F => ?_)
  show Snd z 5 g A (QF z g A mkI) 0 [(0, .ref (gad g q)), (1, .ref (gad g r1)), (2, .int x2)] [] h (f_X4_readBoat q r1 x2 h)
  unfold f_X4_readBoat
  refine s_aload_n F dX4_readBoat_0 rfl 1 rfl ?_
  refine s_callVu (f := fun hh => f_X6_step r1 hh) (As := []) F yv_X6_step (ct_X6_step z.2.1 g hr1) (by decide) m439 hr1 rfl rfl rfl (Nat.le_of_ble_eq_true rfl) dX4_readBoat_1 (fun _ h_1 e_v_2 => ?_)
  refine s_aload_n F dX4_readBoat_4 rfl 0 rfl ?_
  refine s_aload_n F dX4_readBoat_5 rfl 1 rfl ?_
  refine s_callVi (f := fun hh => f_X4_sortTold q r1 hh) (As := [.ref (gad g r1)]) F yv_X4_sortTold (ct_X4_sortTold z.2.1 g hq hr1) (by decide) m481 hq rfl rfl rfl (Nat.le_of_ble_eq_true rfl) dX4_readBoat_6 (fun v_4 h_3 e_v_4 => ?_)
  refine s_istore_n F (lv' := [(3, .int v_4), (0, .ref (gad g q)), (1, .ref (gad g r1)), (2, .int x2)]) dX4_readBoat_9 rfl (by decide) rfl ?_
  refine s_iload_n F dX4_readBoat_10 rfl 0 rfl ?_
  refine s_if_ne F 20 dX4_readBoat_11 (by decide) (fun _ => ?_) (fun _ => ?_)
  · refine s_aload_n F dX4_readBoat_20 rfl 1 rfl ?_
    have hw_5 := wf_ref F.2.2.2.2.2.2.1 hq 0 1 (.inl 2) rfl
    refine s_getr F ciX4 0 1 (.inl 2) hq (by decide) rfl rfl m152 dX4_readBoat_21 ?_
    have hw_6 := wf_ref F.2.2.2.2.2.2.1 hw_5 11 5 (.inr (0, 6)) rfl
    refine s_getrN F ciX2 11 5 (.inr (0, 6)) hw_5 (by decide) rfl rfl (List.mem_of_getElem? (i := 19) rfl) dX4_readBoat_24 ?_
    refine s_iload_n F dX4_readBoat_27 rfl 3 rfl ?_
    refine s_iload_n F dX4_readBoat_28 rfl 0 rfl ?_
    refine s_iast F hw_6 dX4_readBoat_29 ?_
    refine s_letH (fun h_7 => ?_)
    refine s_aload_n F dX4_readBoat_30 rfl 2 rfl ?_
    refine s_callVu (f := fun hh => f_X6_step r1 hh) (As := []) F yv_X6_step (ct_X6_step z.2.1 g hr1) (by decide) m439 hr1 rfl rfl rfl (Nat.le_of_ble_eq_true rfl) dX4_readBoat_31 (fun _ h_8 e_v_9 => ?_)
    refine s_aload_n F dX4_readBoat_34 rfl 1 rfl ?_
    refine s_aload_n F dX4_readBoat_35 rfl 2 rfl ?_
    refine s_iconst F (v := 0) dX4_readBoat_36 (by decide) ?_
    refine s_bipush F (v := 20) dX4_readBoat_37 (by decide) ?_
    refine s_aload_n F dX4_readBoat_39 rfl 1 rfl ?_
    have hw_10 := wf_ref F.2.2.2.2.2.2.1 hq 0 1 (.inl 2) rfl
    refine s_getr F ciX4 0 1 (.inl 2) hq (by decide) rfl rfl m152 dX4_readBoat_40 ?_
    have hw_11 := wf_ref F.2.2.2.2.2.2.1 hw_10 12 6 (.inr (0, 6)) rfl
    refine s_getrN F ciX2 12 6 (.inr (0, 6)) hw_10 (by decide) rfl rfl (List.mem_of_getElem? (i := 20) rfl) dX4_readBoat_43 ?_
    refine s_iload_n F dX4_readBoat_46 rfl 3 rfl ?_
    refine s_callVi (f := fun hh => f_X4_readNumber q r1 0 20 (q + 1 + 6) 6 x2 hh) (As := [.ref (gad g r1), .int 0, .int 20, .ref (gad g (q + 1 + 6)), .int x2]) F yv_X4_readNumber (ct_X4_readNumber z.2.1 g hq hr1 0 20 hw_11 x2) (by decide) m440 hq rfl rfl rfl (Nat.le_of_ble_eq_true rfl) dX4_readBoat_47 (fun v_13 h_12 e_v_13 => ?_)
    refine s_if_ne F 55 dX4_readBoat_50 (by decide) (fun _ => ?_) (fun _ => ?_)
    · refine s_iconst F (v := 0) dX4_readBoat_55 (by decide) ?_
      refine s_istore F (lv' := [(4, .int 0), (3, .int v_4), (0, .ref (gad g q)), (1, .ref (gad g r1)), (2, .int x2)]) dX4_readBoat_56 (by decide) rfl ?_
      exact s_sub [2, 3, 4, 0] rfl (t_X4_readBoat_58 F hq hr1 fu x2 0 h_12)
    · refine s_iconst F (v := 0) dX4_readBoat_53 (by decide) ?_
      exact s_zret1 F (by decide) dX4_readBoat_54
  · refine s_aload_n F dX4_readBoat_14 rfl 1 rfl ?_
    refine s_iconst F (v := 1) dX4_readBoat_15 (by decide) ?_
    refine s_callVi (f := fun hh => f_X4_faulty q 1 hh) (As := [.int 1]) F yv_X4_faulty (ct_X4_faulty z.2.1 g hq 1) (by decide) m435 hq rfl rfl rfl (Nat.le_of_ble_eq_true rfl) dX4_readBoat_16 (fun v_15 h_14 e_v_15 => ?_)
    exact s_zret F dX4_readBoat_19
theorem dX6_isEnd_0 : decode cX6_isEnd 0 = .ok (.aload_n 0, 1) := by decide +kernel
theorem dX6_isEnd_1 : decode cX6_isEnd 1 = .ok (.getfield 34, 3) := by decide +kernel
theorem dX6_isEnd_4 : decode cX6_isEnd 4 = .ok (.iconst 4, 1) := by decide +kernel
theorem dX6_isEnd_5 : decode cX6_isEnd 5 = .ok (.if_icmp .ne 7, 3) := by decide +kernel
theorem dX6_isEnd_8 : decode cX6_isEnd 8 = .ok (.iconst 1, 1) := by decide +kernel
theorem dX6_isEnd_9 : decode cX6_isEnd 9 = .ok (.goto 4, 3) := by decide +kernel
theorem dX6_isEnd_12 : decode cX6_isEnd 12 = .ok (.iconst 0, 1) := by decide +kernel
theorem dX6_isEnd_13 : decode cX6_isEnd 13 = .ok (.ireturn, 1) := by decide +kernel
theorem yv_X6_isEnd : YV yX6_isEnd cX6_isEnd 1 (some .boolean) 0 := ⟨m494, m495, m3, m496, ⟨by decide +kernel, by decide +kernel, by decide +kernel⟩, by decide⟩
noncomputable def f_X6_isEnd (q : Nat) (h : AH) : Option (Int32 × AH) := if (h q 2) = 4 then (some (1, h)) else (some (0, h))
set_option maxRecDepth 20000 in
set_option maxHeartbeats 4000000 in
theorem ct_X6_isEnd (l : Launch) (g : GC) {q : Nat} (hq : (gL g)[q]? = some (.inl 6)) : Ct l yX6_isEnd cX6_isEnd 1 (some .boolean) 1 [.ref (gad g q)] g mkI (fun h => f_X6_isEnd q h) := by
  refine Ct.of (by decide +kernel) (Nat.le_of_ble_eq_true rfl) (fun z A h _ F => ?_)
  show Snd z 1 g A (QF z g A mkI) 0 [(0, .ref (gad g q))] [] h (f_X6_isEnd q h)
  unfold f_X6_isEnd
  refine s_aload_n F dX6_isEnd_0 rfl 0 rfl ?_
  refine s_geti F ciX6 2 hq (by decide) rfl rfl m51 dX6_isEnd_1 ?_
  refine s_iconst F (v := 4) dX6_isEnd_4 (by decide) ?_
  refine s_icmp_ne F 12 dX6_isEnd_5 (by decide) (fun _ => ?_) (fun _ => ?_)
  · refine s_iconst F (v := 0) dX6_isEnd_12 (by decide) ?_
    exact s_zret1 F (by decide) dX6_isEnd_13
  · refine s_iconst F (v := 1) dX6_isEnd_8 (by decide) ?_
    refine s_goto F 13 dX6_isEnd_9 (by decide) ?_
    exact s_zret1 F (by decide) dX6_isEnd_13
theorem dX4_readBoats_0 : decode cX4_readBoats 0 = .ok (.iconst 0, 1) := by decide +kernel
theorem dX4_readBoats_1 : decode cX4_readBoats 1 = .ok (.istore_n 2, 1) := by decide +kernel
theorem dX4_readBoats_2 : decode cX4_readBoats 2 = .ok (.iload_n 2, 1) := by decide +kernel
theorem dX4_readBoats_3 : decode cX4_readBoats 3 = .ok (.bipush 6, 2) := by decide +kernel
theorem dX4_readBoats_5 : decode cX4_readBoats 5 = .ok (.if_icmp .gt 66, 3) := by decide +kernel
theorem dX4_readBoats_8 : decode cX4_readBoats 8 = .ok (.aload_n 1, 1) := by decide +kernel
theorem dX4_readBoats_9 : decode cX4_readBoats 9 = .ok (.ldc 90, 2) := by decide +kernel
theorem dX4_readBoats_11 : decode cX4_readBoats 11 = .ok (.invokevirtual 46, 3) := by decide +kernel
theorem dX4_readBoats_14 : decode cX4_readBoats 14 = .ok (.ifCond .eq 57, 3) := by decide +kernel
theorem dX4_readBoats_17 : decode cX4_readBoats 17 = .ok (.aload_n 0, 1) := by decide +kernel
theorem dX4_readBoats_18 : decode cX4_readBoats 18 = .ok (.getfield 12, 3) := by decide +kernel
theorem dX4_readBoats_21 : decode cX4_readBoats 21 = .ok (.getfield 92, 3) := by decide +kernel
theorem dX4_readBoats_24 : decode cX4_readBoats 24 = .ok (.bipush 6, 2) := by decide +kernel
theorem dX4_readBoats_26 : decode cX4_readBoats 26 = .ok (.if_icmp .lt 9, 3) := by decide +kernel
theorem dX4_readBoats_29 : decode cX4_readBoats 29 = .ok (.aload_n 0, 1) := by decide +kernel
theorem dX4_readBoats_30 : decode cX4_readBoats 30 = .ok (.iconst 3, 1) := by decide +kernel
theorem dX4_readBoats_31 : decode cX4_readBoats 31 = .ok (.invokevirtual 50, 3) := by decide +kernel
theorem dX4_readBoats_34 : decode cX4_readBoats 34 = .ok (.ireturn, 1) := by decide +kernel
theorem dX4_readBoats_35 : decode cX4_readBoats 35 = .ok (.aload_n 0, 1) := by decide +kernel
theorem dX4_readBoats_36 : decode cX4_readBoats 36 = .ok (.aload_n 1, 1) := by decide +kernel
theorem dX4_readBoats_37 : decode cX4_readBoats 37 = .ok (.aload_n 0, 1) := by decide +kernel
theorem dX4_readBoats_38 : decode cX4_readBoats 38 = .ok (.getfield 12, 3) := by decide +kernel
theorem dX4_readBoats_41 : decode cX4_readBoats 41 = .ok (.getfield 92, 3) := by decide +kernel
theorem dX4_readBoats_44 : decode cX4_readBoats 44 = .ok (.invokevirtual 95, 3) := by decide +kernel
theorem dX4_readBoats_47 : decode cX4_readBoats 47 = .ok (.ifCond .ne 5, 3) := by decide +kernel
theorem dX4_readBoats_50 : decode cX4_readBoats 50 = .ok (.iconst 0, 1) := by decide +kernel
theorem dX4_readBoats_51 : decode cX4_readBoats 51 = .ok (.ireturn, 1) := by decide +kernel
theorem dX4_readBoats_52 : decode cX4_readBoats 52 = .ok (.aload_n 0, 1) := by decide +kernel
theorem dX4_readBoats_53 : decode cX4_readBoats 53 = .ok (.getfield 12, 3) := by decide +kernel
theorem dX4_readBoats_56 : decode cX4_readBoats 56 = .ok (.dup, 1) := by decide +kernel
theorem dX4_readBoats_57 : decode cX4_readBoats 57 = .ok (.getfield 92, 3) := by decide +kernel
theorem dX4_readBoats_60 : decode cX4_readBoats 60 = .ok (.iconst 1, 1) := by decide +kernel
theorem dX4_readBoats_61 : decode cX4_readBoats 61 = .ok (.iadd, 1) := by decide +kernel
theorem dX4_readBoats_62 : decode cX4_readBoats 62 = .ok (.putfield 92, 3) := by decide +kernel
theorem dX4_readBoats_65 : decode cX4_readBoats 65 = .ok (.iinc 2 1, 3) := by decide +kernel
theorem dX4_readBoats_68 : decode cX4_readBoats 68 = .ok (.goto (-66), 3) := by decide +kernel
theorem dX4_readBoats_71 : decode cX4_readBoats 71 = .ok (.aload_n 1, 1) := by decide +kernel
theorem dX4_readBoats_72 : decode cX4_readBoats 72 = .ok (.invokevirtual 98, 3) := by decide +kernel
theorem dX4_readBoats_75 : decode cX4_readBoats 75 = .ok (.ifCond .ne 11, 3) := by decide +kernel
theorem dX4_readBoats_78 : decode cX4_readBoats 78 = .ok (.aload_n 0, 1) := by decide +kernel
theorem dX4_readBoats_79 : decode cX4_readBoats 79 = .ok (.iconst 1, 1) := by decide +kernel
theorem dX4_readBoats_80 : decode cX4_readBoats 80 = .ok (.invokevirtual 50, 3) := by decide +kernel
theorem dX4_readBoats_83 : decode cX4_readBoats 83 = .ok (.ifCond .eq 7, 3) := by decide +kernel
theorem dX4_readBoats_86 : decode cX4_readBoats 86 = .ok (.iconst 1, 1) := by decide +kernel
theorem dX4_readBoats_87 : decode cX4_readBoats 87 = .ok (.goto 4, 3) := by decide +kernel
theorem dX4_readBoats_90 : decode cX4_readBoats 90 = .ok (.iconst 0, 1) := by decide +kernel
theorem dX4_readBoats_91 : decode cX4_readBoats 91 = .ok (.ireturn, 1) := by decide +kernel
theorem yv_X4_readBoats : YV yX4_readBoats cX4_readBoats 3 (some .boolean) 1 := ⟨m474, ms8, m4, m475, ⟨by decide +kernel, by decide +kernel, by decide +kernel⟩, by decide⟩
noncomputable def f_X4_readBoats_71 (q r1 : Nat) (h : AH) : Option (Int32 × AH) := bd (f_X6_isEnd r1 h) (fun v_2 h_1 => if v_2 = 0 then (bd (f_X4_faulty q 1 h_1) (fun v_4 h_3 => if v_4 = 0 then (some (0, h_3)) else (some (1, h_3)))) else (some (1, h_1)))
set_option maxRecDepth 20000 in
set_option maxHeartbeats 4000000 in
theorem t_X4_readBoats_71 {z : MC} {g : GC} {A : Nat → Prop} (F : Fx z cX4_readBoats 3 RX4 (some .boolean) 8 g A) {q : Nat} (hq : (gL g)[q]? = some (.inl 4)) {r1 : Nat} (hr1 : (gL g)[r1]? = some (.inl 6)) : ∀ (h : AH), Snd z 3 g A (QF z g A mkI) 71 [(0, .ref (gad g q)), (1, .ref (gad g r1))] [] h (f_X4_readBoats_71 q r1  h) := by
  intro h
  unfold f_X4_readBoats_71
  refine s_aload_n F dX4_readBoats_71 rfl 1 rfl ?_
  refine s_callVi (f := fun hh => f_X6_isEnd r1 hh) (As := []) F yv_X6_isEnd (ct_X6_isEnd z.2.1 g hr1) (by decide) m493 hr1 rfl rfl rfl (Nat.le_of_ble_eq_true rfl) dX4_readBoats_72 (fun v_2 h_1 e_v_2 => ?_)
  refine s_if_ne F 86 dX4_readBoats_75 (by decide) (fun _ => ?_) (fun _ => ?_)
  · refine s_iconst F (v := 1) dX4_readBoats_86 (by decide) ?_
    refine s_goto F 91 dX4_readBoats_87 (by decide) ?_
    exact s_zret1 F (by decide) dX4_readBoats_91
  · refine s_aload_n F dX4_readBoats_78 rfl 0 rfl ?_
    refine s_iconst F (v := 1) dX4_readBoats_79 (by decide) ?_
    refine s_callVi (f := fun hh => f_X4_faulty q 1 hh) (As := [.int 1]) F yv_X4_faulty (ct_X4_faulty z.2.1 g hq 1) (by decide) m435 hq rfl rfl rfl (Nat.le_of_ble_eq_true rfl) dX4_readBoats_80 (fun v_4 h_3 e_v_4 => ?_)
    refine s_if_eq F 90 dX4_readBoats_83 (by decide) (fun _ => ?_) (fun _ => ?_)
    · refine s_iconst F (v := 0) dX4_readBoats_90 (by decide) ?_
      exact s_zret1 F (by decide) dX4_readBoats_91
    · refine s_iconst F (v := 1) dX4_readBoats_86 (by decide) ?_
      refine s_goto F 91 dX4_readBoats_87 (by decide) ?_
      exact s_zret1 F (by decide) dX4_readBoats_91
noncomputable def f_X4_readBoats_2 (q r1 : Nat) : Nat → Int32 → AH → Option (Int32 × AH)
  | 0, _, _ => none
  | n + 1, x2, h => if (6 : Int32) < x2 then (f_X4_readBoats_71 q r1 h) else (bd (f_X6_isWord r1 2 h) (fun v_2 h_1 => if v_2 = 0 then (f_X4_readBoats_71 q r1 h_1) else (if (h_1 (q + 1) 2) < 6 then (bd (f_X4_readBoat q r1 (h_1 (q + 1) 2) h_1) (fun v_6 h_5 => if v_6 = 0 then (some (0, h_5)) else (lt (hset h_5 (q + 1) 2 ((h_5 (q + 1) 2) + 1)) (fun h_8 => lt (x2 + 1) (fun v_9 => (f_X4_readBoats_2 q r1 n) v_9 h_8))))) else (bd (f_X4_faulty q 3 h_1) (fun v_11 h_10 => gz v_11 (some (v_11, h_10)))))))
set_option maxRecDepth 20000 in
set_option maxHeartbeats 4000000 in
theorem t_X4_readBoats_2 {z : MC} {g : GC} {A : Nat → Prop} (F : Fx z cX4_readBoats 3 RX4 (some .boolean) 8 g A) {q : Nat} (hq : (gL g)[q]? = some (.inl 4)) {r1 : Nat} (hr1 : (gL g)[r1]? = some (.inl 6)) : ∀ (n : Nat) (x2 : Int32) (h : AH), Snd z 3 g A (QF z g A mkI) 2 [(0, .ref (gad g q)), (1, .ref (gad g r1)), (2, .int x2)] [] h (f_X4_readBoats_2 q r1 n x2 h) := by
  intro n
  induction n with
  | zero => intros; exact s_none
  | succ n ih =>
    intro x2 h
    unfold f_X4_readBoats_2
    refine s_iload_n F dX4_readBoats_2 rfl 2 rfl ?_
    refine s_bipush F (v := 6) dX4_readBoats_3 (by decide) ?_
    refine s_icmp_gt F 71 dX4_readBoats_5 (by decide) (fun _ => ?_) (fun _ => ?_)
    · exact s_sub [0, 1] rfl (t_X4_readBoats_71 F hq hr1 h)
    · refine s_aload_n F dX4_readBoats_8 rfl 1 rfl ?_
      refine s_ldcS F 2 (by decide) (show (ksi 2).1 = 90 from rfl) rfl dX4_readBoats_9 ?_
      refine s_callVi (f := fun hh => f_X6_isWord r1 2 hh) (As := [.ref (gK g 2)]) F yv_X6_isWord (ct_X6_isWord z.2.1 g hr1 (by decide)) (by decide) m383 hr1 rfl rfl rfl (Nat.le_of_ble_eq_true rfl) dX4_readBoats_11 (fun v_2 h_1 e_v_2 => ?_)
      refine s_if_eq F 71 dX4_readBoats_14 (by decide) (fun _ => ?_) (fun _ => ?_)
      · exact s_sub [0, 1] rfl (t_X4_readBoats_71 F hq hr1 h_1)
      · refine s_aload_n F dX4_readBoats_17 rfl 0 rfl ?_
        have hw_3 := wf_ref F.2.2.2.2.2.2.1 hq 0 1 (.inl 2) rfl
        refine s_getr F ciX4 0 1 (.inl 2) hq (by decide) rfl rfl m152 dX4_readBoats_18 ?_
        refine s_getiN F ciX2 2 hw_3 (by decide) rfl rfl (List.mem_of_getElem? (i := 28) rfl) dX4_readBoats_21 ?_
        refine s_bipush F (v := 6) dX4_readBoats_24 (by decide) ?_
        refine s_icmp_lt F 35 dX4_readBoats_26 (by decide) (fun _ => ?_) (fun _ => ?_)
        · refine s_aload_n F dX4_readBoats_35 rfl 0 rfl ?_
          refine s_aload_n F dX4_readBoats_36 rfl 1 rfl ?_
          refine s_aload_n F dX4_readBoats_37 rfl 0 rfl ?_
          have hw_4 := wf_ref F.2.2.2.2.2.2.1 hq 0 1 (.inl 2) rfl
          refine s_getr F ciX4 0 1 (.inl 2) hq (by decide) rfl rfl m152 dX4_readBoats_38 ?_
          refine s_getiN F ciX2 2 hw_4 (by decide) rfl rfl (List.mem_of_getElem? (i := 28) rfl) dX4_readBoats_41 ?_
          refine s_callVi (f := fun hh => f_X4_readBoat q r1 (h_1 (q + 1) 2) hh) (As := [.ref (gad g r1), .int (h_1 (q + 1) 2)]) F yv_X4_readBoat (ct_X4_readBoat z.2.1 g hq hr1 (h_1 (q + 1) 2)) (by decide) m477 hq rfl rfl rfl (Nat.le_of_ble_eq_true rfl) dX4_readBoats_44 (fun v_6 h_5 e_v_6 => ?_)
          refine s_if_ne F 52 dX4_readBoats_47 (by decide) (fun _ => ?_) (fun _ => ?_)
          · refine s_aload_n F dX4_readBoats_52 rfl 0 rfl ?_
            have hw_7 := wf_ref F.2.2.2.2.2.2.1 hq 0 1 (.inl 2) rfl
            refine s_getr F ciX4 0 1 (.inl 2) hq (by decide) rfl rfl m152 dX4_readBoats_53 ?_
            refine s_dup F dX4_readBoats_56 rfl ?_
            refine s_getiN F ciX2 2 hw_7 (by decide) rfl rfl (List.mem_of_getElem? (i := 28) rfl) dX4_readBoats_57 ?_
            refine s_iconst F (v := 1) dX4_readBoats_60 (by decide) ?_
            refine s_iadd F dX4_readBoats_61 ?_
            refine s_putN F ciX2 (k := 2) hw_7 (by decide) rfl rfl rfl rfl (List.mem_of_getElem? (i := 28) rfl) dX4_readBoats_62 ?_
            refine s_letH (fun h_8 => ?_)
            refine s_iincv F dX4_readBoats_65 2 rfl (by decide) (c := 1) (by decide) (fun v_9 => ?_)
            refine s_lv (lv' := [(2, .int v_9), (0, .ref (gad g q)), (1, .ref (gad g r1))]) rfl ?_
            refine s_goto F 2 dX4_readBoats_68 (by decide) ?_
            exact s_sub [1, 2, 0] rfl (ih v_9 h_8)
          · refine s_iconst F (v := 0) dX4_readBoats_50 (by decide) ?_
            exact s_zret1 F (by decide) dX4_readBoats_51
        · refine s_aload_n F dX4_readBoats_29 rfl 0 rfl ?_
          refine s_iconst F (v := 3) dX4_readBoats_30 (by decide) ?_
          refine s_callVi (f := fun hh => f_X4_faulty q 3 hh) (As := [.int 3]) F yv_X4_faulty (ct_X4_faulty z.2.1 g hq 3) (by decide) m435 hq rfl rfl rfl (Nat.le_of_ble_eq_true rfl) dX4_readBoats_31 (fun v_11 h_10 e_v_11 => ?_)
          exact s_zret F dX4_readBoats_34
noncomputable def f_X4_readBoats (q : Nat) (r1 : Nat) (h : AH) : Option (Int32 × AH) := f_X4_readBoats_2 q r1 fu 0 h
set_option maxRecDepth 20000 in
set_option maxHeartbeats 4000000 in
theorem ct_X4_readBoats (l : Launch) (g : GC) {q : Nat} (hq : (gL g)[q]? = some (.inl 4)) {r1 : Nat} (hr1 : (gL g)[r1]? = some (.inl 6)) : Ct l yX4_readBoats cX4_readBoats 3 (some .boolean) 8 [.ref (gad g q), .ref (gad g r1)] g mkI (fun h => f_X4_readBoats q r1 h) := by
  refine Ct.of (by decide +kernel) (Nat.le_of_ble_eq_true rfl) (fun z A h _ F => ?_)
  show Snd z 3 g A (QF z g A mkI) 0 [(0, .ref (gad g q)), (1, .ref (gad g r1))] [] h (f_X4_readBoats q r1 h)
  unfold f_X4_readBoats
  refine s_iconst F (v := 0) dX4_readBoats_0 (by decide) ?_
  refine s_istore_n F (lv' := [(2, .int 0), (0, .ref (gad g q)), (1, .ref (gad g r1))]) dX4_readBoats_1 rfl (by decide) rfl ?_
  exact s_sub [1, 2, 0] rfl (t_X4_readBoats_2 F hq hr1 fu 0 h)
theorem dX4_readTide_0 : decode cX4_readTide 0 = .ok (.aload_n 1, 1) := by decide +kernel
theorem dX4_readTide_1 : decode cX4_readTide 1 = .ok (.ldc 44, 2) := by decide +kernel
theorem dX4_readTide_3 : decode cX4_readTide 3 = .ok (.invokevirtual 46, 3) := by decide +kernel
theorem dX4_readTide_6 : decode cX4_readTide 6 = .ok (.ifCond .ne 9, 3) := by decide +kernel
theorem dX4_readTide_9 : decode cX4_readTide 9 = .ok (.aload_n 0, 1) := by decide +kernel
theorem dX4_readTide_10 : decode cX4_readTide 10 = .ok (.iconst 1, 1) := by decide +kernel
theorem dX4_readTide_11 : decode cX4_readTide 11 = .ok (.invokevirtual 50, 3) := by decide +kernel
theorem dX4_readTide_14 : decode cX4_readTide 14 = .ok (.ireturn, 1) := by decide +kernel
theorem dX4_readTide_15 : decode cX4_readTide 15 = .ok (.aload_n 1, 1) := by decide +kernel
theorem dX4_readTide_16 : decode cX4_readTide 16 = .ok (.invokevirtual 54, 3) := by decide +kernel
theorem dX4_readTide_19 : decode cX4_readTide 19 = .ok (.iconst 0, 1) := by decide +kernel
theorem dX4_readTide_20 : decode cX4_readTide 20 = .ok (.istore_n 2, 1) := by decide +kernel
theorem dX4_readTide_21 : decode cX4_readTide 21 = .ok (.iload_n 2, 1) := by decide +kernel
theorem dX4_readTide_22 : decode cX4_readTide 22 = .ok (.bipush 12, 2) := by decide +kernel
theorem dX4_readTide_24 : decode cX4_readTide 24 = .ok (.if_icmp .ge 30, 3) := by decide +kernel
theorem dX4_readTide_27 : decode cX4_readTide 27 = .ok (.aload_n 0, 1) := by decide +kernel
theorem dX4_readTide_28 : decode cX4_readTide 28 = .ok (.aload_n 1, 1) := by decide +kernel
theorem dX4_readTide_29 : decode cX4_readTide 29 = .ok (.iconst 0, 1) := by decide +kernel
theorem dX4_readTide_30 : decode cX4_readTide 30 = .ok (.bipush 20, 2) := by decide +kernel
theorem dX4_readTide_32 : decode cX4_readTide 32 = .ok (.aload_n 0, 1) := by decide +kernel
theorem dX4_readTide_33 : decode cX4_readTide 33 = .ok (.getfield 12, 3) := by decide +kernel
theorem dX4_readTide_36 : decode cX4_readTide 36 = .ok (.getfield 57, 3) := by decide +kernel
theorem dX4_readTide_39 : decode cX4_readTide 39 = .ok (.iload_n 2, 1) := by decide +kernel
theorem dX4_readTide_40 : decode cX4_readTide 40 = .ok (.invokevirtual 61, 3) := by decide +kernel
theorem dX4_readTide_43 : decode cX4_readTide 43 = .ok (.ifCond .ne 5, 3) := by decide +kernel
theorem dX4_readTide_46 : decode cX4_readTide 46 = .ok (.iconst 0, 1) := by decide +kernel
theorem dX4_readTide_47 : decode cX4_readTide 47 = .ok (.ireturn, 1) := by decide +kernel
theorem dX4_readTide_48 : decode cX4_readTide 48 = .ok (.iinc 2 1, 3) := by decide +kernel
theorem dX4_readTide_51 : decode cX4_readTide 51 = .ok (.goto (-30), 3) := by decide +kernel
theorem dX4_readTide_54 : decode cX4_readTide 54 = .ok (.aload_n 0, 1) := by decide +kernel
theorem dX4_readTide_55 : decode cX4_readTide 55 = .ok (.aload_n 1, 1) := by decide +kernel
theorem dX4_readTide_56 : decode cX4_readTide 56 = .ok (.invokevirtual 65, 3) := by decide +kernel
theorem dX4_readTide_59 : decode cX4_readTide 59 = .ok (.ireturn, 1) := by decide +kernel
theorem yv_X4_readTide : YV yX4_readTide cX4_readTide 3 (some .boolean) 1 := ⟨m380, ms2, m4, m381, ⟨by decide +kernel, by decide +kernel, by decide +kernel⟩, by decide⟩
noncomputable def f_X4_readTide_21 (q r1 : Nat) : Nat → Int32 → AH → Option (Int32 × AH)
  | 0, _, _ => none
  | n + 1, x2, h => if (12 : Int32) ≤ x2 then (bd (f_X4_readSign q r1 h) (fun v_2 h_1 => gz v_2 (some (v_2, h_1)))) else (bd (f_X4_readNumber q r1 0 20 (q + 1 + 1) 12 x2 h) (fun v_6 h_5 => if v_6 = 0 then (some (0, h_5)) else (lt (x2 + 1) (fun v_7 => (f_X4_readTide_21 q r1 n) v_7 h_5))))
set_option maxRecDepth 20000 in
set_option maxHeartbeats 4000000 in
theorem t_X4_readTide_21 {z : MC} {g : GC} {A : Nat → Prop} (F : Fx z cX4_readTide 3 RX4 (some .boolean) 6 g A) {q : Nat} (hq : (gL g)[q]? = some (.inl 4)) {r1 : Nat} (hr1 : (gL g)[r1]? = some (.inl 6)) : ∀ (n : Nat) (x2 : Int32) (h : AH), Snd z 3 g A (QF z g A mkI) 21 [(0, .ref (gad g q)), (1, .ref (gad g r1)), (2, .int x2)] [] h (f_X4_readTide_21 q r1 n x2 h) := by
  intro n
  induction n with
  | zero => intros; exact s_none
  | succ n ih =>
    intro x2 h
    unfold f_X4_readTide_21
    refine s_iload_n F dX4_readTide_21 rfl 2 rfl ?_
    refine s_bipush F (v := 12) dX4_readTide_22 (by decide) ?_
    refine s_icmp_ge F 54 dX4_readTide_24 (by decide) (fun _ => ?_) (fun _ => ?_)
    · refine s_aload_n F dX4_readTide_54 rfl 0 rfl ?_
      refine s_aload_n F dX4_readTide_55 rfl 1 rfl ?_
      refine s_callVi (f := fun hh => f_X4_readSign q r1 hh) (As := [.ref (gad g r1)]) F yv_X4_readSign (ct_X4_readSign z.2.1 g hq hr1) (by decide) m452 hq rfl rfl rfl (Nat.le_of_ble_eq_true rfl) dX4_readTide_56 (fun v_2 h_1 e_v_2 => ?_)
      exact s_zret F dX4_readTide_59
    · refine s_aload_n F dX4_readTide_27 rfl 0 rfl ?_
      refine s_aload_n F dX4_readTide_28 rfl 1 rfl ?_
      refine s_iconst F (v := 0) dX4_readTide_29 (by decide) ?_
      refine s_bipush F (v := 20) dX4_readTide_30 (by decide) ?_
      refine s_aload_n F dX4_readTide_32 rfl 0 rfl ?_
      have hw_3 := wf_ref F.2.2.2.2.2.2.1 hq 0 1 (.inl 2) rfl
      refine s_getr F ciX4 0 1 (.inl 2) hq (by decide) rfl rfl m152 dX4_readTide_33 ?_
      have hw_4 := wf_ref F.2.2.2.2.2.2.1 hw_3 7 1 (.inr (0, 12)) rfl
      refine s_getrN F ciX2 7 1 (.inr (0, 12)) hw_3 (by decide) rfl rfl (List.mem_of_getElem? (i := 23) rfl) dX4_readTide_36 ?_
      refine s_iload_n F dX4_readTide_39 rfl 2 rfl ?_
      refine s_callVi (f := fun hh => f_X4_readNumber q r1 0 20 (q + 1 + 1) 12 x2 hh) (As := [.ref (gad g r1), .int 0, .int 20, .ref (gad g (q + 1 + 1)), .int x2]) F yv_X4_readNumber (ct_X4_readNumber z.2.1 g hq hr1 0 20 hw_4 x2) (by decide) m440 hq rfl rfl rfl (Nat.le_of_ble_eq_true rfl) dX4_readTide_40 (fun v_6 h_5 e_v_6 => ?_)
      refine s_if_ne F 48 dX4_readTide_43 (by decide) (fun _ => ?_) (fun _ => ?_)
      · refine s_iincv F dX4_readTide_48 2 rfl (by decide) (c := 1) (by decide) (fun v_7 => ?_)
        refine s_lv (lv' := [(2, .int v_7), (0, .ref (gad g q)), (1, .ref (gad g r1))]) rfl ?_
        refine s_goto F 21 dX4_readTide_51 (by decide) ?_
        exact s_sub [1, 2, 0] rfl (ih v_7 h_5)
      · refine s_iconst F (v := 0) dX4_readTide_46 (by decide) ?_
        exact s_zret1 F (by decide) dX4_readTide_47
noncomputable def f_X4_readTide (q : Nat) (r1 : Nat) (h : AH) : Option (Int32 × AH) := bd (f_X6_isWord r1 0 h) (fun v_2 h_1 => if v_2 = 0 then (bd (f_X4_faulty q 1 h_1) (fun v_6 h_5 => gz v_6 (some (v_6, h_5)))) else (bd (f_X6_step r1 h_1) (fun _ h_3 => f_X4_readTide_21 q r1 fu 0 h_3)))
set_option maxRecDepth 20000 in
set_option maxHeartbeats 4000000 in
theorem ct_X4_readTide (l : Launch) (g : GC) {q : Nat} (hq : (gL g)[q]? = some (.inl 4)) {r1 : Nat} (hr1 : (gL g)[r1]? = some (.inl 6)) : Ct l yX4_readTide cX4_readTide 3 (some .boolean) 6 [.ref (gad g q), .ref (gad g r1)] g mkI (fun h => f_X4_readTide q r1 h) := by
  refine Ct.of (by decide +kernel) (Nat.le_of_ble_eq_true rfl) (fun z A h _ F => ?_)
  show Snd z 3 g A (QF z g A mkI) 0 [(0, .ref (gad g q)), (1, .ref (gad g r1))] [] h (f_X4_readTide q r1 h)
  unfold f_X4_readTide
  refine s_aload_n F dX4_readTide_0 rfl 1 rfl ?_
  refine s_ldcS F 0 (by decide) (show (ksi 0).1 = 44 from rfl) rfl dX4_readTide_1 ?_
  refine s_callVi (f := fun hh => f_X6_isWord r1 0 hh) (As := [.ref (gK g 0)]) F yv_X6_isWord (ct_X6_isWord z.2.1 g hr1 (by decide)) (by decide) m383 hr1 rfl rfl rfl (Nat.le_of_ble_eq_true rfl) dX4_readTide_3 (fun v_2 h_1 e_v_2 => ?_)
  refine s_if_ne F 15 dX4_readTide_6 (by decide) (fun _ => ?_) (fun _ => ?_)
  · refine s_aload_n F dX4_readTide_15 rfl 1 rfl ?_
    refine s_callVu (f := fun hh => f_X6_step r1 hh) (As := []) F yv_X6_step (ct_X6_step z.2.1 g hr1) (by decide) m439 hr1 rfl rfl rfl (Nat.le_of_ble_eq_true rfl) dX4_readTide_16 (fun _ h_3 e_v_4 => ?_)
    refine s_iconst F (v := 0) dX4_readTide_19 (by decide) ?_
    refine s_istore_n F (lv' := [(2, .int 0), (0, .ref (gad g q)), (1, .ref (gad g r1))]) dX4_readTide_20 rfl (by decide) rfl ?_
    exact s_sub [1, 2, 0] rfl (t_X4_readTide_21 F hq hr1 fu 0 h_3)
  · refine s_aload_n F dX4_readTide_9 rfl 0 rfl ?_
    refine s_iconst F (v := 1) dX4_readTide_10 (by decide) ?_
    refine s_callVi (f := fun hh => f_X4_faulty q 1 hh) (As := [.int 1]) F yv_X4_faulty (ct_X4_faulty z.2.1 g hq 1) (by decide) m435 hq rfl rfl rfl (Nat.le_of_ble_eq_true rfl) dX4_readTide_11 (fun v_6 h_5 e_v_6 => ?_)
    exact s_zret F dX4_readTide_14
theorem dX6_rewind_0 : decode cX6_rewind 0 = .ok (.aload_n 0, 1) := by decide +kernel
theorem dX6_rewind_1 : decode cX6_rewind 1 = .ok (.iconst 0, 1) := by decide +kernel
theorem dX6_rewind_2 : decode cX6_rewind 2 = .ok (.putfield 20, 3) := by decide +kernel
theorem dX6_rewind_5 : decode cX6_rewind 5 = .ok (.aload_n 0, 1) := by decide +kernel
theorem dX6_rewind_6 : decode cX6_rewind 6 = .ok (.invokevirtual 23, 3) := by decide +kernel
theorem dX6_rewind_9 : decode cX6_rewind 9 = .ok (.return_, 1) := by decide +kernel
theorem yv_X6_rewind : YV yX6_rewind cX6_rewind 1 none 0 := ⟨m365, m366, m3, m367, ⟨by decide +kernel, by decide +kernel, by decide +kernel⟩, by decide⟩
noncomputable def f_X6_rewind (q : Nat) (h : AH) : Option (Unit × AH) := lt (hset h q 4 0) (fun h_1 => bd (f_X6_step q h_1) (fun _ h_2 => some ((), h_2)))
set_option maxRecDepth 20000 in
set_option maxHeartbeats 4000000 in
theorem ct_X6_rewind (l : Launch) (g : GC) {q : Nat} (hq : (gL g)[q]? = some (.inl 6)) : Ct l yX6_rewind cX6_rewind 1 none 3 [.ref (gad g q)] g mkU (fun h => f_X6_rewind q h) := by
  refine Ct.of (by decide +kernel) (Nat.le_of_ble_eq_true rfl) (fun z A h _ F => ?_)
  show Snd z 1 g A (QF z g A mkU) 0 [(0, .ref (gad g q))] [] h (f_X6_rewind q h)
  unfold f_X6_rewind
  refine s_aload_n F dX6_rewind_0 rfl 0 rfl ?_
  refine s_iconst F (v := 0) dX6_rewind_1 (by decide) ?_
  refine s_put F ciX6 (k := 4) hq (by decide) rfl rfl rfl rfl m53 dX6_rewind_2 ?_
  refine s_letH (fun h_1 => ?_)
  refine s_aload_n F dX6_rewind_5 rfl 0 rfl ?_
  refine s_callVu (f := fun hh => f_X6_step q hh) (As := []) F yv_X6_step (ct_X6_step z.2.1 g hq) (by decide) m368 hq rfl rfl rfl (Nat.le_of_ble_eq_true rfl) dX6_rewind_6 (fun _ h_2 e_v_3 => ?_)
  exact s_vret F dX6_rewind_9
theorem dX4_read_0 : decode cX4_read 0 = .ok (.aload_n 0, 1) := by decide +kernel
theorem dX4_read_1 : decode cX4_read 1 = .ok (.getfield 12, 3) := by decide +kernel
theorem dX4_read_4 : decode cX4_read 4 = .ok (.invokevirtual 22, 3) := by decide +kernel
theorem dX4_read_7 : decode cX4_read 7 = .ok (.aload_n 1, 1) := by decide +kernel
theorem dX4_read_8 : decode cX4_read 8 = .ok (.invokevirtual 25, 3) := by decide +kernel
theorem dX4_read_11 : decode cX4_read 11 = .ok (.aload_n 0, 1) := by decide +kernel
theorem dX4_read_12 : decode cX4_read 12 = .ok (.aload_n 1, 1) := by decide +kernel
theorem dX4_read_13 : decode cX4_read 13 = .ok (.invokevirtual 30, 3) := by decide +kernel
theorem dX4_read_16 : decode cX4_read 16 = .ok (.ifCond .eq 19, 3) := by decide +kernel
theorem dX4_read_19 : decode cX4_read 19 = .ok (.aload_n 0, 1) := by decide +kernel
theorem dX4_read_20 : decode cX4_read 20 = .ok (.aload_n 1, 1) := by decide +kernel
theorem dX4_read_21 : decode cX4_read 21 = .ok (.invokevirtual 34, 3) := by decide +kernel
theorem dX4_read_24 : decode cX4_read 24 = .ok (.ifCond .eq 11, 3) := by decide +kernel
theorem dX4_read_27 : decode cX4_read 27 = .ok (.aload_n 0, 1) := by decide +kernel
theorem dX4_read_28 : decode cX4_read 28 = .ok (.aload_n 1, 1) := by decide +kernel
theorem dX4_read_29 : decode cX4_read 29 = .ok (.invokevirtual 37, 3) := by decide +kernel
theorem dX4_read_32 : decode cX4_read 32 = .ok (.ifCond .ne 5, 3) := by decide +kernel
theorem dX4_read_35 : decode cX4_read 35 = .ok (.iconst 0, 1) := by decide +kernel
theorem dX4_read_36 : decode cX4_read 36 = .ok (.ireturn, 1) := by decide +kernel
theorem dX4_read_37 : decode cX4_read 37 = .ok (.aload_n 0, 1) := by decide +kernel
theorem dX4_read_38 : decode cX4_read 38 = .ok (.getfield 12, 3) := by decide +kernel
theorem dX4_read_41 : decode cX4_read 41 = .ok (.iconst 1, 1) := by decide +kernel
theorem dX4_read_42 : decode cX4_read 42 = .ok (.putfield 40, 3) := by decide +kernel
theorem dX4_read_45 : decode cX4_read 45 = .ok (.iconst 1, 1) := by decide +kernel
theorem dX4_read_46 : decode cX4_read 46 = .ok (.ireturn, 1) := by decide +kernel
theorem yv_X4_read : YV yX4_read cX4_read 2 (some .boolean) 1 := ⟨m354, m355, m4, m356, ⟨by decide +kernel, by decide +kernel, by decide +kernel⟩, by decide⟩
noncomputable def f_X4_read (q : Nat) (r1 : Nat) (h : AH) : Option (Int32 × AH) := bd (f_X2_clear (q + 1) h) (fun _ h_2 => bd (f_X6_rewind r1 h_2) (fun _ h_4 => bd (f_X4_readTide q r1 h_4) (fun v_7 h_6 => if v_7 = 0 then (some (0, h_6)) else (bd (f_X4_readArches q r1 h_6) (fun v_9 h_8 => if v_9 = 0 then (some (0, h_8)) else (bd (f_X4_readBoats q r1 h_8) (fun v_11 h_10 => if v_11 = 0 then (some (0, h_10)) else (gz 1 (lt (hset h_10 (q + 1) 0 1) (fun h_13 => some (1, h_13)))))))))))
set_option maxRecDepth 20000 in
set_option maxHeartbeats 4000000 in
theorem ct_X4_read (l : Launch) (g : GC) {q : Nat} (hq : (gL g)[q]? = some (.inl 4)) {r1 : Nat} (hr1 : (gL g)[r1]? = some (.inl 6)) : Ct l yX4_read cX4_read 2 (some .boolean) 9 [.ref (gad g q), .ref (gad g r1)] g mkI (fun h => f_X4_read q r1 h) := by
  refine Ct.of (by decide +kernel) (Nat.le_of_ble_eq_true rfl) (fun z A h _ F => ?_)
  show Snd z 2 g A (QF z g A mkI) 0 [(0, .ref (gad g q)), (1, .ref (gad g r1))] [] h (f_X4_read q r1 h)
  unfold f_X4_read
  refine s_aload_n F dX4_read_0 rfl 0 rfl ?_
  have hw_1 := wf_ref F.2.2.2.2.2.2.1 hq 0 1 (.inl 2) rfl
  refine s_getr F ciX4 0 1 (.inl 2) hq (by decide) rfl rfl m152 dX4_read_1 ?_
  refine s_callVu (f := fun hh => f_X2_clear (q + 1) hh) (As := []) F yv_X2_clear (ct_X2_clear z.2.1 g hw_1) (by decide) m357 hw_1 rfl rfl rfl (Nat.le_of_ble_eq_true rfl) dX4_read_4 (fun _ h_2 e_v_3 => ?_)
  refine s_aload_n F dX4_read_7 rfl 1 rfl ?_
  refine s_callVu (f := fun hh => f_X6_rewind r1 hh) (As := []) F yv_X6_rewind (ct_X6_rewind z.2.1 g hr1) (by decide) m364 hr1 rfl rfl rfl (Nat.le_of_ble_eq_true rfl) dX4_read_8 (fun _ h_4 e_v_5 => ?_)
  refine s_aload_n F dX4_read_11 rfl 0 rfl ?_
  refine s_aload_n F dX4_read_12 rfl 1 rfl ?_
  refine s_callVi (f := fun hh => f_X4_readTide q r1 hh) (As := [.ref (gad g r1)]) F yv_X4_readTide (ct_X4_readTide z.2.1 g hq hr1) (by decide) m378 hq rfl rfl rfl (Nat.le_of_ble_eq_true rfl) dX4_read_13 (fun v_7 h_6 e_v_7 => ?_)
  refine s_if_eq F 35 dX4_read_16 (by decide) (fun _ => ?_) (fun _ => ?_)
  · refine s_iconst F (v := 0) dX4_read_35 (by decide) ?_
    exact s_zret1 F (by decide) dX4_read_36
  · refine s_aload_n F dX4_read_19 rfl 0 rfl ?_
    refine s_aload_n F dX4_read_20 rfl 1 rfl ?_
    refine s_callVi (f := fun hh => f_X4_readArches q r1 hh) (As := [.ref (gad g r1)]) F yv_X4_readArches (ct_X4_readArches z.2.1 g hq hr1) (by decide) m460 hq rfl rfl rfl (Nat.le_of_ble_eq_true rfl) dX4_read_21 (fun v_9 h_8 e_v_9 => ?_)
    refine s_if_eq F 35 dX4_read_24 (by decide) (fun _ => ?_) (fun _ => ?_)
    · refine s_iconst F (v := 0) dX4_read_35 (by decide) ?_
      exact s_zret1 F (by decide) dX4_read_36
    · refine s_aload_n F dX4_read_27 rfl 0 rfl ?_
      refine s_aload_n F dX4_read_28 rfl 1 rfl ?_
      refine s_callVi (f := fun hh => f_X4_readBoats q r1 hh) (As := [.ref (gad g r1)]) F yv_X4_readBoats (ct_X4_readBoats z.2.1 g hq hr1) (by decide) m472 hq rfl rfl rfl (Nat.le_of_ble_eq_true rfl) dX4_read_29 (fun v_11 h_10 e_v_11 => ?_)
      refine s_if_ne F 37 dX4_read_32 (by decide) (fun _ => ?_) (fun _ => ?_)
      · refine s_aload_n F dX4_read_37 rfl 0 rfl ?_
        have hw_12 := wf_ref F.2.2.2.2.2.2.1 hq 0 1 (.inl 2) rfl
        refine s_getr F ciX4 0 1 (.inl 2) hq (by decide) rfl rfl m152 dX4_read_38 ?_
        refine s_iconst F (v := 1) dX4_read_41 (by decide) ?_
        refine s_putZN F ciX2 (k := 0) hw_12 (by decide) rfl rfl rfl rfl (List.mem_of_getElem? (i := 22) rfl) dX4_read_42 ?_
        refine s_letH (fun h_13 => ?_)
        refine s_iconst F (v := 1) dX4_read_45 (by decide) ?_
        exact s_zret1 F (by decide) dX4_read_46
      · refine s_iconst F (v := 0) dX4_read_35 (by decide) ?_
        exact s_zret1 F (by decide) dX4_read_36
theorem dX6_size_0 : decode cX6_size 0 = .ok (.aload_n 0, 1) := by decide +kernel
theorem dX6_size_1 : decode cX6_size 1 = .ok (.getfield 13, 3) := by decide +kernel
theorem dX6_size_4 : decode cX6_size 4 = .ok (.ireturn, 1) := by decide +kernel
theorem yv_X6_size : YV yX6_size cX6_size 1 (some .int) 0 := ⟨m345, m346, m3, m347, ⟨by decide +kernel, by decide +kernel, by decide +kernel⟩, by decide⟩
noncomputable def f_X6_size (q : Nat) (h : AH) : Option (Int32 × AH) := some (h q 1, h)
set_option maxRecDepth 20000 in
set_option maxHeartbeats 4000000 in
theorem ct_X6_size (l : Launch) (g : GC) {q : Nat} (hq : (gL g)[q]? = some (.inl 6)) : Ct l yX6_size cX6_size 1 (some .int) 1 [.ref (gad g q)] g mkI (fun h => f_X6_size q h) := by
  refine Ct.of (by decide +kernel) (Nat.le_of_ble_eq_true rfl) (fun z A h _ F => ?_)
  show Snd z 1 g A (QF z g A mkI) 0 [(0, .ref (gad g q))] [] h (f_X6_size q h)
  unfold f_X6_size
  refine s_aload_n F dX6_size_0 rfl 0 rfl ?_
  refine s_geti F ciX6 1 hq (by decide) rfl rfl m50 dX6_size_1 ?_
  exact s_iret F dX6_size_4
theorem dX6_clear_0 : decode cX6_clear 0 = .ok (.aload_n 0, 1) := by decide +kernel
theorem dX6_clear_1 : decode cX6_clear 1 = .ok (.iconst 0, 1) := by decide +kernel
theorem dX6_clear_2 : decode cX6_clear 2 = .ok (.putfield 13, 3) := by decide +kernel
theorem dX6_clear_5 : decode cX6_clear 5 = .ok (.return_, 1) := by decide +kernel
theorem yv_X6_clear : YV yX6_clear cX6_clear 1 none 0 := ⟨m502, m503, m3, m504, ⟨by decide +kernel, by decide +kernel, by decide +kernel⟩, by decide⟩
noncomputable def f_X6_clear (q : Nat) (h : AH) : Option (Unit × AH) := lt (hset h q 1 0) (fun h_1 => some ((), h_1))
set_option maxRecDepth 20000 in
set_option maxHeartbeats 4000000 in
theorem ct_X6_clear (l : Launch) (g : GC) {q : Nat} (hq : (gL g)[q]? = some (.inl 6)) : Ct l yX6_clear cX6_clear 1 none 1 [.ref (gad g q)] g mkU (fun h => f_X6_clear q h) := by
  refine Ct.of (by decide +kernel) (Nat.le_of_ble_eq_true rfl) (fun z A h _ F => ?_)
  show Snd z 1 g A (QF z g A mkU) 0 [(0, .ref (gad g q))] [] h (f_X6_clear q h)
  unfold f_X6_clear
  refine s_aload_n F dX6_clear_0 rfl 0 rfl ?_
  refine s_iconst F (v := 0) dX6_clear_1 (by decide) ?_
  refine s_put F ciX6 (k := 1) hq (by decide) rfl rfl rfl rfl m50 dX6_clear_2 ?_
  refine s_letH (fun h_1 => ?_)
  exact s_vret F dX6_clear_5
theorem dX6_append_0 : decode cX6_append 0 = .ok (.iload_n 3, 1) := by decide +kernel
theorem dX6_append_1 : decode cX6_append 1 = .ok (.sipush 500, 3) := by decide +kernel
theorem dX6_append_4 : decode cX6_append 4 = .ok (.aload_n 0, 1) := by decide +kernel
theorem dX6_append_5 : decode cX6_append 5 = .ok (.getfield 13, 3) := by decide +kernel
theorem dX6_append_8 : decode cX6_append 8 = .ok (.isub, 1) := by decide +kernel
theorem dX6_append_9 : decode cX6_append 9 = .ok (.if_icmp .le 5, 3) := by decide +kernel
theorem dX6_append_12 : decode cX6_append 12 = .ok (.iconst 0, 1) := by decide +kernel
theorem dX6_append_13 : decode cX6_append 13 = .ok (.ireturn, 1) := by decide +kernel
theorem dX6_append_14 : decode cX6_append 14 = .ok (.iload_n 3, 1) := by decide +kernel
theorem dX6_append_15 : decode cX6_append 15 = .ok (.iconst 1, 1) := by decide +kernel
theorem dX6_append_16 : decode cX6_append 16 = .ok (.isub, 1) := by decide +kernel
theorem dX6_append_17 : decode cX6_append 17 = .ok (.istore 4, 2) := by decide +kernel
theorem dX6_append_19 : decode cX6_append 19 = .ok (.iload 4, 2) := by decide +kernel
theorem dX6_append_21 : decode cX6_append 21 = .ok (.ifCond .lt 37, 3) := by decide +kernel
theorem dX6_append_24 : decode cX6_append 24 = .ok (.aload_n 0, 1) := by decide +kernel
theorem dX6_append_25 : decode cX6_append 25 = .ok (.getfield 9, 3) := by decide +kernel
theorem dX6_append_28 : decode cX6_append 28 = .ok (.aload_n 0, 1) := by decide +kernel
theorem dX6_append_29 : decode cX6_append 29 = .ok (.getfield 13, 3) := by decide +kernel
theorem dX6_append_32 : decode cX6_append 32 = .ok (.lload_n 1, 1) := by decide +kernel
theorem dX6_append_33 : decode cX6_append 33 = .ok (.bipush 8, 2) := by decide +kernel
theorem dX6_append_35 : decode cX6_append 35 = .ok (.iload 4, 2) := by decide +kernel
theorem dX6_append_37 : decode cX6_append 37 = .ok (.imul, 1) := by decide +kernel
theorem dX6_append_38 : decode cX6_append 38 = .ok (.lshr, 1) := by decide +kernel
theorem dX6_append_39 : decode cX6_append 39 = .ok (.l2i, 1) := by decide +kernel
theorem dX6_append_40 : decode cX6_append 40 = .ok (.i2b, 1) := by decide +kernel
theorem dX6_append_41 : decode cX6_append 41 = .ok (.bastore, 1) := by decide +kernel
theorem dX6_append_42 : decode cX6_append 42 = .ok (.aload_n 0, 1) := by decide +kernel
theorem dX6_append_43 : decode cX6_append 43 = .ok (.dup, 1) := by decide +kernel
theorem dX6_append_44 : decode cX6_append 44 = .ok (.getfield 13, 3) := by decide +kernel
theorem dX6_append_47 : decode cX6_append 47 = .ok (.iconst 1, 1) := by decide +kernel
theorem dX6_append_48 : decode cX6_append 48 = .ok (.iadd, 1) := by decide +kernel
theorem dX6_append_49 : decode cX6_append 49 = .ok (.putfield 13, 3) := by decide +kernel
theorem dX6_append_52 : decode cX6_append 52 = .ok (.iinc 4 (-1), 3) := by decide +kernel
theorem dX6_append_55 : decode cX6_append 55 = .ok (.goto (-36), 3) := by decide +kernel
theorem dX6_append_58 : decode cX6_append 58 = .ok (.iconst 1, 1) := by decide +kernel
theorem dX6_append_59 : decode cX6_append 59 = .ok (.ireturn, 1) := by decide +kernel
theorem yv_X6_append : YV yX6_append cX6_append 5 (some .boolean) 2 := ⟨m341, m342, m3, m343, ⟨by decide +kernel, by decide +kernel, by decide +kernel⟩, by decide⟩
noncomputable def f_X6_append_19 (q : Nat) : Nat → Int64 → Int32 → AH → Option (Int32 × AH)
  | 0, _, _, _ => none
  | n + 1, x1, x4, h => if x4 < 0 then (some (1, h)) else (lt (h q 1) (fun v_2 => ck v_2 500 (lt (hset h (q + 1) (v_2 : Int32).toNatClampNeg (vp_nar .byte ((((x1 >>> (((8 * x4) : Int32).toInt64 &&& 63)) : Int64).toInt32 : Int32).toInt8.toInt32))) (fun h_3 => lt (hset h_3 q 1 ((h_3 q 1) + 1)) (fun h_4 => lt (x4 + (-1)) (fun v_5 => (f_X6_append_19 q n) x1 v_5 h_4))))))
set_option maxRecDepth 20000 in
set_option maxHeartbeats 4000000 in
theorem t_X6_append_19 {z : MC} {g : GC} {A : Nat → Prop} (F : Fx z cX6_append 5 RX6 (some .boolean) 1 g A) {q : Nat} (hq : (gL g)[q]? = some (.inl 6)) : ∀ (n : Nat) (x1 : Int64) (x4 : Int32) (h : AH), Snd z 5 g A (QF z g A mkI) 19 [(0, .ref (gad g q)), (1, .long x1), (4, .int x4)] [] h (f_X6_append_19 q n x1 x4 h) := by
  intro n
  induction n with
  | zero => intros; exact s_none
  | succ n ih =>
    intro x1 x4 h
    unfold f_X6_append_19
    refine s_iload F dX6_append_19 2 rfl ?_
    refine s_if_lt F 58 dX6_append_21 (by decide) (fun _ => ?_) (fun _ => ?_)
    · refine s_iconst F (v := 1) dX6_append_58 (by decide) ?_
      exact s_zret1 F (by decide) dX6_append_59
    · refine s_aload_n F dX6_append_24 rfl 0 rfl ?_
      have hw_1 := wf_ref F.2.2.2.2.2.2.1 hq 0 1 (.inr (1, 500)) rfl
      refine s_getr F ciX6 0 1 (.inr (1, 500)) hq (by decide) rfl rfl m49 dX6_append_25 ?_
      refine s_aload_n F dX6_append_28 rfl 0 rfl ?_
      refine s_geti F ciX6 1 hq (by decide) rfl rfl m50 dX6_append_29 ?_
      refine s_lload_n F dX6_append_32 rfl 1 rfl ?_
      refine s_bipush F (v := 8) dX6_append_33 (by decide) ?_
      refine s_iload F dX6_append_35 2 rfl ?_
      refine s_imul F dX6_append_37 ?_
      refine s_lshr F dX6_append_38 ?_
      refine s_l2i F dX6_append_39 ?_
      refine s_i2b F dX6_append_40 ?_
      refine s_leti2 (fun v_2 => ?_)
      refine s_bast F hw_1 dX6_append_41 ?_
      refine s_letH (fun h_3 => ?_)
      refine s_aload_n F dX6_append_42 rfl 0 rfl ?_
      refine s_dup F dX6_append_43 rfl ?_
      refine s_geti F ciX6 1 hq (by decide) rfl rfl m50 dX6_append_44 ?_
      refine s_iconst F (v := 1) dX6_append_47 (by decide) ?_
      refine s_iadd F dX6_append_48 ?_
      refine s_put F ciX6 (k := 1) hq (by decide) rfl rfl rfl rfl m50 dX6_append_49 ?_
      refine s_letH (fun h_4 => ?_)
      refine s_iincv F dX6_append_52 2 rfl (by decide) (c := (-1)) (by decide) (fun v_5 => ?_)
      refine s_lv (lv' := [(4, .int v_5), (0, .ref (gad g q)), (1, .long x1)]) rfl ?_
      refine s_goto F 19 dX6_append_55 (by decide) ?_
      exact s_sub [1, 2, 0] rfl (ih x1 v_5 h_4)
noncomputable def f_X6_append (q : Nat) (x1 : Int64) (x3 : Int32) (h : AH) : Option (Int32 × AH) := if x3 ≤ (500 - (h q 1)) then (lt ((x3 - 1)) (fun v_1 => f_X6_append_19 q fu x1 v_1 h)) else (some (0, h))
set_option maxRecDepth 20000 in
set_option maxHeartbeats 4000000 in
theorem ct_X6_append (l : Launch) (g : GC) {q : Nat} (hq : (gL g)[q]? = some (.inl 6)) (x1 : Int64) (x3 : Int32) : Ct l yX6_append cX6_append 5 (some .boolean) 1 [.ref (gad g q), .long x1, .int x3] g mkI (fun h => f_X6_append q x1 x3 h) := by
  refine Ct.of (by decide +kernel) (Nat.le_of_ble_eq_true rfl) (fun z A h _ F => ?_)
  show Snd z 5 g A (QF z g A mkI) 0 [(0, .ref (gad g q)), (1, .long x1), (3, .int x3)] [] h (f_X6_append q x1 x3 h)
  unfold f_X6_append
  refine s_iload_n F dX6_append_0 rfl 2 rfl ?_
  refine s_sipush F (v := 500) dX6_append_1 (by decide) ?_
  refine s_aload_n F dX6_append_4 rfl 0 rfl ?_
  refine s_geti F ciX6 1 hq (by decide) rfl rfl m50 dX6_append_5 ?_
  refine s_isub F dX6_append_8 ?_
  refine s_icmp_le F 14 dX6_append_9 (by decide) (fun _ => ?_) (fun _ => ?_)
  · refine s_iload_n F dX6_append_14 rfl 2 rfl ?_
    refine s_iconst F (v := 1) dX6_append_15 (by decide) ?_
    refine s_isub F dX6_append_16 ?_
    refine s_leti (fun v_1 => ?_)
    refine s_istore F (lv' := [(4, .int v_1), (0, .ref (gad g q)), (1, .long x1), (3, .int x3)]) dX6_append_17 (by decide) rfl ?_
    exact s_sub [1, 2, 0] rfl (t_X6_append_19 F hq fu x1 v_1 h)
  · refine s_iconst F (v := 0) dX6_append_12 (by decide) ?_
    exact s_zret1 F (by decide) dX6_append_13
theorem dX6_tokenStart_0 : decode cX6_tokenStart 0 = .ok (.aload_n 0, 1) := by decide +kernel
theorem dX6_tokenStart_1 : decode cX6_tokenStart 1 = .ok (.getfield 17, 3) := by decide +kernel
theorem dX6_tokenStart_4 : decode cX6_tokenStart 4 = .ok (.ireturn, 1) := by decide +kernel
theorem yv_X6_tokenStart : YV yX6_tokenStart cX6_tokenStart 1 (some .int) 0 := ⟨m498, m499, m3, m500, ⟨by decide +kernel, by decide +kernel, by decide +kernel⟩, by decide⟩
noncomputable def f_X6_tokenStart (q : Nat) (h : AH) : Option (Int32 × AH) := some (h q 3, h)
set_option maxRecDepth 20000 in
set_option maxHeartbeats 4000000 in
theorem ct_X6_tokenStart (l : Launch) (g : GC) {q : Nat} (hq : (gL g)[q]? = some (.inl 6)) : Ct l yX6_tokenStart cX6_tokenStart 1 (some .int) 1 [.ref (gad g q)] g mkI (fun h => f_X6_tokenStart q h) := by
  refine Ct.of (by decide +kernel) (Nat.le_of_ble_eq_true rfl) (fun z A h _ F => ?_)
  show Snd z 1 g A (QF z g A mkI) 0 [(0, .ref (gad g q))] [] h (f_X6_tokenStart q h)
  unfold f_X6_tokenStart
  refine s_aload_n F dX6_tokenStart_0 rfl 0 rfl ?_
  refine s_geti F ciX6 3 hq (by decide) rfl rfl m52 dX6_tokenStart_1 ?_
  exact s_iret F dX6_tokenStart_4
