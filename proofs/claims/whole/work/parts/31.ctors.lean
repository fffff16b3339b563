/-! ===== the layouts and what the constructors leave ===== -/
def neg8 : Nat → Int32 := upd (upd (upd (upd (upd (upd (upd (upd ((fun _ => 0)) 0 (-1)) 1 (-1)) 2 (-1)) 3 (-1)) 4 (-1)) 5 (-1)) 6 (-1)) 7 (-1)
def lam0 : List Sh := [.inl 0, .inr (0, 24), .inr (0, 24), .inr (0, 24), .inr (0, 24)]
def hz0 : AH := (fun _ _ => 0)
def fz0 : List Value := [.null, .null, .null, .null, .int 0, .int 0]
theorem fz0_ok : ∀ j, j < 6 → defaultValue (tyX0 j) = vp_V fz0 j := by
  intro j hj
  rcases (show j = 0 ∨ j = 1 ∨ j = 2 ∨ j = 3 ∨ j = 4 ∨ j = 5 by omega) with rfl | rfl | rfl | rfl | rfl | rfl <;> rfl
def lam1 : List Sh := [.inl 1, .inr (0, 16)]
def hz1 : AH := (fun _ _ => 0)
def fz1 : List Value := [.null, .int 0]
theorem fz1_ok : ∀ j, j < 2 → defaultValue (tyX1 j) = vp_V fz1 j := by
  intro j hj
  rcases (show j = 0 ∨ j = 1 by omega) with rfl | rfl <;> rfl
def lam2 : List Sh := [.inl 2, .inr (0, 12), .inr (0, 12), .inr (0, 6), .inr (0, 6), .inr (0, 6), .inr (0, 6), .inr (0, 24), .inr (0, 24)]
def hz2 : AH := (fun _ _ => 0)
def fz2 : List Value := [.int 0, .int 0, .int 0, .int 0, .int 0, .int 0, .int 0, .null, .null, .null, .null, .null, .null, .null, .null]
theorem fz2_ok : ∀ j, j < 15 → defaultValue (tyX2 j) = vp_V fz2 j := by
  intro j hj
  rcases (show j = 0 ∨ j = 1 ∨ j = 2 ∨ j = 3 ∨ j = 4 ∨ j = 5 ∨ j = 6 ∨ j = 7 ∨ j = 8 ∨ j = 9 ∨ j = 10 ∨ j = 11 ∨ j = 12 ∨ j = 13 ∨ j = 14 by omega) with rfl | rfl | rfl | rfl | rfl | rfl | rfl | rfl | rfl | rfl | rfl | rfl | rfl | rfl | rfl <;> rfl
def lam3 : List Sh := [.inl 3, .inr (0, 36), .inr (0, 6), .inr (0, 6), .inr (0, 6), .inr (0, 6), .inr (0, 6), .inr (0, 6), .inr (0, 6)]
def hz3 : AH := (fun _ _ => 0)
def fz3 : List Value := [.null, .null, .null, .null, .null, .null, .null, .null, .int 0, .int 0, .int 0]
theorem fz3_ok : ∀ j, j < 11 → defaultValue (tyX3 j) = vp_V fz3 j := by
  intro j hj
  rcases (show j = 0 ∨ j = 1 ∨ j = 2 ∨ j = 3 ∨ j = 4 ∨ j = 5 ∨ j = 6 ∨ j = 7 ∨ j = 8 ∨ j = 9 ∨ j = 10 by omega) with rfl | rfl | rfl | rfl | rfl | rfl | rfl | rfl | rfl | rfl | rfl <;> rfl
def lam4 : List Sh := [.inl 4, .inl 2, .inr (0, 12), .inr (0, 12), .inr (0, 6), .inr (0, 6), .inr (0, 6), .inr (0, 6), .inr (0, 24), .inr (0, 24)]
def hz4 : AH := (fun _ _ => 0)
def fz4 : List Value := [.null, .int 0]
theorem fz4_ok : ∀ j, j < 2 → defaultValue (tyX4 j) = vp_V fz4 j := by
  intro j hj
  rcases (show j = 0 ∨ j = 1 by omega) with rfl | rfl <;> rfl
def lam5 : List Sh := [.inl 5, .inr (0, 8), .inr (0, 8), .inr (0, 320)]
def hz5 : AH := (hput (fun _ _ => 0) 2 neg8)
def fz5 : List Value := [.null, .null, .null]
theorem fz5_ok : ∀ j, j < 3 → defaultValue (tyX5 j) = vp_V fz5 j := by
  intro j hj
  rcases (show j = 0 ∨ j = 1 ∨ j = 2 by omega) with rfl | rfl | rfl <;> rfl
def lam6 : List Sh := [.inl 6, .inr (1, 500)]
def hz6 : AH := (fun _ _ => 0)
def fz6 : List Value := [.null, .int 0, .int 0, .int 0, .int 0]
theorem fz6_ok : ∀ j, j < 5 → defaultValue (tyX6 j) = vp_V fz6 j := by
  intro j hj
  rcases (show j = 0 ∨ j = 1 ∨ j = 2 ∨ j = 3 ∨ j = 4 by omega) with rfl | rfl | rfl | rfl | rfl <;> rfl
def lam7 : List Sh := [.inl 7, .inl 5, .inr (0, 8), .inr (0, 8), .inr (0, 320), .inl 6, .inr (1, 500), .inl 4, .inl 2, .inr (0, 12), .inr (0, 12), .inr (0, 6), .inr (0, 6), .inr (0, 6), .inr (0, 6), .inr (0, 24), .inr (0, 24), .inl 2, .inr (0, 12), .inr (0, 12), .inr (0, 6), .inr (0, 6), .inr (0, 6), .inr (0, 6), .inr (0, 24), .inr (0, 24), .inl 2, .inr (0, 12), .inr (0, 12), .inr (0, 6), .inr (0, 6), .inr (0, 6), .inr (0, 6), .inr (0, 24), .inr (0, 24), .inl 2, .inr (0, 12), .inr (0, 12), .inr (0, 6), .inr (0, 6), .inr (0, 6), .inr (0, 6), .inr (0, 24), .inr (0, 24), .inl 0, .inr (0, 24), .inr (0, 24), .inr (0, 24), .inr (0, 24), .inl 3, .inr (0, 36), .inr (0, 6), .inr (0, 6), .inr (0, 6), .inr (0, 6), .inr (0, 6), .inr (0, 6), .inr (0, 6), .inl 1, .inr (0, 16)]
def hz7 : AH := (hput (fun _ _ => 0) 3 neg8)
def fz7 : List Value := [.null, .null, .null, .null, .null, .null, .null, .null, .null, .int 0, .int 0]
theorem fz7_ok : ∀ j, j < 11 → defaultValue (tyX7 j) = vp_V fz7 j := by
  intro j hj
  rcases (show j = 0 ∨ j = 1 ∨ j = 2 ∨ j = 3 ∨ j = 4 ∨ j = 5 ∨ j = 6 ∨ j = 7 ∨ j = 8 ∨ j = 9 ∨ j = 10 by omega) with rfl | rfl | rfl | rfl | rfl | rfl | rfl | rfl | rfl | rfl | rfl <;> rfl
def lam8 : List Sh := [.inl 8, .inr (0, 8), .inr (0, 8), .inr (0, 320), .inr (0, 100), .inr (0, 100), .inr (0, 2400), .inr (0, 500), .inr (0, 144), .inr (2, 144), .inr (2, 144), .inr (0, 144), .inr (0, 6), .inr (0, 6), .inr (0, 6), .inr (0, 6), .inr (2, 2), .inr (0, 200), .inr (0, 16)]
def hz8 : AH := (hput (fun _ _ => 0) 1 neg8)
def fz8 : List Value := [.int 0, .int 0, .null, .null, .null, .null, .null, .int 0, .null, .int 0, .null, .int 0, .int 0, .int 0, .int 0, .int 0, .int 0, .int 0, .int 0, .int 0, .null, .null, .null, .null, .null, .null, .int 0, .int 0, .null, .null, .null, .null, .null, .int 0]
theorem fz8_ok : ∀ j, j < 34 → defaultValue (tyX8 j) = vp_V fz8 j := by
  intro j hj
  rcases (show j = 0 ∨ j = 1 ∨ j = 2 ∨ j = 3 ∨ j = 4 ∨ j = 5 ∨ j = 6 ∨ j = 7 ∨ j = 8 ∨ j = 9 ∨ j = 10 ∨ j = 11 ∨ j = 12 ∨ j = 13 ∨ j = 14 ∨ j = 15 ∨ j = 16 ∨ j = 17 ∨ j = 18 ∨ j = 19 ∨ j = 20 ∨ j = 21 ∨ j = 22 ∨ j = 23 ∨ j = 24 ∨ j = 25 ∨ j = 26 ∨ j = 27 ∨ j = 28 ∨ j = 29 ∨ j = 30 ∨ j = 31 ∨ j = 32 ∨ j = 33 by omega) with rfl | rfl | rfl | rfl | rfl | rfl | rfl | rfl | rfl | rfl | rfl | rfl | rfl | rfl | rfl | rfl | rfl | rfl | rfl | rfl | rfl | rfl | rfl | rfl | rfl | rfl | rfl | rfl | rfl | rfl | rfl | rfl | rfl | rfl <;> rfl
theorem dX0_init_0 : decode cX0_init 0 = .ok (.aload_n 0, 1) := by decide +kernel
theorem dX0_init_1 : decode cX0_init 1 = .ok (.invokespecial 1, 3) := by decide +kernel
theorem dX0_init_4 : decode cX0_init 4 = .ok (.aload_n 0, 1) := by decide +kernel
theorem dX0_init_5 : decode cX0_init 5 = .ok (.bipush 24, 2) := by decide +kernel
theorem dX0_init_7 : decode cX0_init 7 = .ok (.newarray .int, 2) := by decide +kernel
theorem dX0_init_9 : decode cX0_init 9 = .ok (.putfield 9, 3) := by decide +kernel
theorem dX0_init_12 : decode cX0_init 12 = .ok (.aload_n 0, 1) := by decide +kernel
theorem dX0_init_13 : decode cX0_init 13 = .ok (.bipush 24, 2) := by decide +kernel
theorem dX0_init_15 : decode cX0_init 15 = .ok (.newarray .int, 2) := by decide +kernel
theorem dX0_init_17 : decode cX0_init 17 = .ok (.putfield 13, 3) := by decide +kernel
theorem dX0_init_20 : decode cX0_init 20 = .ok (.aload_n 0, 1) := by decide +kernel
theorem dX0_init_21 : decode cX0_init 21 = .ok (.bipush 24, 2) := by decide +kernel
theorem dX0_init_23 : decode cX0_init 23 = .ok (.newarray .int, 2) := by decide +kernel
theorem dX0_init_25 : decode cX0_init 25 = .ok (.putfield 16, 3) := by decide +kernel
theorem dX0_init_28 : decode cX0_init 28 = .ok (.aload_n 0, 1) := by decide +kernel
theorem dX0_init_29 : decode cX0_init 29 = .ok (.bipush 24, 2) := by decide +kernel
theorem dX0_init_31 : decode cX0_init 31 = .ok (.newarray .int, 2) := by decide +kernel
theorem dX0_init_33 : decode cX0_init 33 = .ok (.putfield 19, 3) := by decide +kernel
theorem dX0_init_36 : decode cX0_init 36 = .ok (.return_, 1) := by decide +kernel
set_option maxRecDepth 100000 in
set_option maxHeartbeats 8000000 in
theorem cc_X0 (l : Launch) (g : GC) : Cc l yX0_init cX0_init { frames := 1, cells := 4, slots := 96, locals := 44 } g 0 fz0 lam0 hz0 4 96 := by
  refine Cc.of (by decide +kernel) rfl (fun z a0 sz A hzl hA F => ?_)
  subst hzl
  refine c_ws (ws' := [(a0, .inr (0, [.null, .null, .null, .null, .int 0, .int 0]))]) rfl ?_
  refine c_aload F dX0_init_0 rfl 0 rfl ?_
  refine c_obj F m166 m24 m25 (by decide) (by decide) rfl dX0_init_1 ?_
  refine c_aload F dX0_init_4 rfl 0 rfl ?_
  refine c_bipush F (v := 24) dX0_init_5 (by decide) ?_
  refine c_newa F 0 (ty := .int) (atype := .int) rfl (fun _ h => by cases h) rfl m42 (N := 24) (fun _ => rfl) (by decide) (by decide) (by decide) (by decide) (by decide) dX0_init_7 (fun q1 => ?_)
  refine c_ws (ws' := [(a0, .inr (0, [.null, .null, .null, .null, .int 0, .int 0])), (q1, .inl (gtc g 0, 24, .inl (fun _ => 0)))]) rfl ?_
  refine c_putF F ciX0 0 0 (tt := .array .int) rfl (by decide) rfl rfl rfl rfl rfl rfl (Nat.le_of_ble_eq_true rfl) m167 dX0_init_9 ?_
  refine c_ws (ws' := [(a0, .inr (0, [.ref q1, .null, .null, .null, .int 0, .int 0])), (q1, .inl (gtc g 0, 24, .inl (fun _ => 0)))]) rfl ?_
  refine c_aload F dX0_init_12 rfl 0 rfl ?_
  refine c_bipush F (v := 24) dX0_init_13 (by decide) ?_
  refine c_newa F 0 (ty := .int) (atype := .int) rfl (fun _ h => by cases h) rfl m42 (N := 24) (fun _ => rfl) (by decide) (by decide) (by decide) (by decide) (by decide) dX0_init_15 (fun q2 => ?_)
  refine c_ws (ws' := [(a0, .inr (0, [.ref q1, .null, .null, .null, .int 0, .int 0])), (q1, .inl (gtc g 0, 24, .inl (fun _ => 0))), (q2, .inl (gtc g 0, 24, .inl (fun _ => 0)))]) rfl ?_
  refine c_putF F ciX0 0 1 (tt := .array .int) rfl (by decide) rfl rfl rfl rfl rfl rfl (Nat.le_of_ble_eq_true rfl) m168 dX0_init_17 ?_
  refine c_ws (ws' := [(a0, .inr (0, [.ref q1, .ref q2, .null, .null, .int 0, .int 0])), (q1, .inl (gtc g 0, 24, .inl (fun _ => 0))), (q2, .inl (gtc g 0, 24, .inl (fun _ => 0)))]) rfl ?_
  refine c_aload F dX0_init_20 rfl 0 rfl ?_
  refine c_bipush F (v := 24) dX0_init_21 (by decide) ?_
  refine c_newa F 0 (ty := .int) (atype := .int) rfl (fun _ h => by cases h) rfl m42 (N := 24) (fun _ => rfl) (by decide) (by decide) (by decide) (by decide) (by decide) dX0_init_23 (fun q3 => ?_)
  refine c_ws (ws' := [(a0, .inr (0, [.ref q1, .ref q2, .null, .null, .int 0, .int 0])), (q1, .inl (gtc g 0, 24, .inl (fun _ => 0))), (q2, .inl (gtc g 0, 24, .inl (fun _ => 0))), (q3, .inl (gtc g 0, 24, .inl (fun _ => 0)))]) rfl ?_
  refine c_putF F ciX0 0 2 (tt := .array .int) rfl (by decide) rfl rfl rfl rfl rfl rfl (Nat.le_of_ble_eq_true rfl) m169 dX0_init_25 ?_
  refine c_ws (ws' := [(a0, .inr (0, [.ref q1, .ref q2, .ref q3, .null, .int 0, .int 0])), (q1, .inl (gtc g 0, 24, .inl (fun _ => 0))), (q2, .inl (gtc g 0, 24, .inl (fun _ => 0))), (q3, .inl (gtc g 0, 24, .inl (fun _ => 0)))]) rfl ?_
  refine c_aload F dX0_init_28 rfl 0 rfl ?_
  refine c_bipush F (v := 24) dX0_init_29 (by decide) ?_
  refine c_newa F 0 (ty := .int) (atype := .int) rfl (fun _ h => by cases h) rfl m42 (N := 24) (fun _ => rfl) (by decide) (by decide) (by decide) (by decide) (by decide) dX0_init_31 (fun q4 => ?_)
  refine c_ws (ws' := [(a0, .inr (0, [.ref q1, .ref q2, .ref q3, .null, .int 0, .int 0])), (q1, .inl (gtc g 0, 24, .inl (fun _ => 0))), (q2, .inl (gtc g 0, 24, .inl (fun _ => 0))), (q3, .inl (gtc g 0, 24, .inl (fun _ => 0))), (q4, .inl (gtc g 0, 24, .inl (fun _ => 0)))]) rfl ?_
  refine c_putF F ciX0 0 3 (tt := .array .int) rfl (by decide) rfl rfl rfl rfl rfl rfl (Nat.le_of_ble_eq_true rfl) m170 dX0_init_33 ?_
  refine c_ws (ws' := [(a0, .inr (0, [.ref q1, .ref q2, .ref q3, .ref q4, .int 0, .int 0])), (q1, .inl (gtc g 0, 24, .inl (fun _ => 0))), (q2, .inl (gtc g 0, 24, .inl (fun _ => 0))), (q3, .inl (gtc g 0, 24, .inl (fun _ => 0))), (q4, .inl (gtc g 0, 24, .inl (fun _ => 0)))]) rfl ?_
  exact c_ret F (fun i => [a0, q1, q2, q3, q4].getD i 0) (by decide) (by decide) rfl rfl hA dX0_init_36
theorem dX1_init_0 : decode cX1_init 0 = .ok (.aload_n 0, 1) := by decide +kernel
theorem dX1_init_1 : decode cX1_init 1 = .ok (.invokespecial 3, 3) := by decide +kernel
theorem dX1_init_4 : decode cX1_init 4 = .ok (.aload_n 0, 1) := by decide +kernel
theorem dX1_init_5 : decode cX1_init 5 = .ok (.bipush 16, 2) := by decide +kernel
theorem dX1_init_7 : decode cX1_init 7 = .ok (.newarray .int, 2) := by decide +kernel
theorem dX1_init_9 : decode cX1_init 9 = .ok (.putfield 11, 3) := by decide +kernel
theorem dX1_init_12 : decode cX1_init 12 = .ok (.return_, 1) := by decide +kernel
set_option maxRecDepth 100000 in
set_option maxHeartbeats 8000000 in
theorem cc_X1 (l : Launch) (g : GC) : Cc l yX1_init cX1_init { frames := 1, cells := 1, slots := 16, locals := 44 } g 1 fz1 lam1 hz1 1 16 := by
  refine Cc.of (by decide +kernel) rfl (fun z a0 sz A hzl hA F => ?_)
  subst hzl
  refine c_ws (ws' := [(a0, .inr (1, [.null, .int 0]))]) rfl ?_
  refine c_aload F dX1_init_0 rfl 0 rfl ?_
  refine c_obj F m231 m24 m25 (by decide) (by decide) rfl dX1_init_1 ?_
  refine c_aload F dX1_init_4 rfl 0 rfl ?_
  refine c_bipush F (v := 16) dX1_init_5 (by decide) ?_
  refine c_newa F 0 (ty := .int) (atype := .int) rfl (fun _ h => by cases h) rfl m42 (N := 16) (fun _ => rfl) (by decide) (by decide) (by decide) (by decide) (by decide) dX1_init_7 (fun q1 => ?_)
  refine c_ws (ws' := [(a0, .inr (1, [.null, .int 0])), (q1, .inl (gtc g 0, 16, .inl (fun _ => 0)))]) rfl ?_
  refine c_putF F ciX1 0 0 (tt := .array .int) rfl (by decide) rfl rfl rfl rfl rfl rfl (Nat.le_of_ble_eq_true rfl) m232 dX1_init_9 ?_
  refine c_ws (ws' := [(a0, .inr (1, [.ref q1, .int 0])), (q1, .inl (gtc g 0, 16, .inl (fun _ => 0)))]) rfl ?_
  exact c_ret F (fun i => [a0, q1].getD i 0) (by decide) (by decide) rfl rfl hA dX1_init_12
theorem dX2_init_0 : decode cX2_init 0 = .ok (.aload_n 0, 1) := by decide +kernel
theorem dX2_init_1 : decode cX2_init 1 = .ok (.invokespecial 3, 3) := by decide +kernel
theorem dX2_init_4 : decode cX2_init 4 = .ok (.aload_n 0, 1) := by decide +kernel
theorem dX2_init_5 : decode cX2_init 5 = .ok (.bipush 12, 2) := by decide +kernel
theorem dX2_init_7 : decode cX2_init 7 = .ok (.newarray .int, 2) := by decide +kernel
theorem dX2_init_9 : decode cX2_init 9 = .ok (.putfield 9, 3) := by decide +kernel
theorem dX2_init_12 : decode cX2_init 12 = .ok (.aload_n 0, 1) := by decide +kernel
theorem dX2_init_13 : decode cX2_init 13 = .ok (.bipush 12, 2) := by decide +kernel
theorem dX2_init_15 : decode cX2_init 15 = .ok (.newarray .int, 2) := by decide +kernel
theorem dX2_init_17 : decode cX2_init 17 = .ok (.putfield 15, 3) := by decide +kernel
theorem dX2_init_20 : decode cX2_init 20 = .ok (.aload_n 0, 1) := by decide +kernel
theorem dX2_init_21 : decode cX2_init 21 = .ok (.bipush 6, 2) := by decide +kernel
theorem dX2_init_23 : decode cX2_init 23 = .ok (.newarray .int, 2) := by decide +kernel
theorem dX2_init_25 : decode cX2_init 25 = .ok (.putfield 18, 3) := by decide +kernel
theorem dX2_init_28 : decode cX2_init 28 = .ok (.aload_n 0, 1) := by decide +kernel
theorem dX2_init_29 : decode cX2_init 29 = .ok (.bipush 6, 2) := by decide +kernel
theorem dX2_init_31 : decode cX2_init 31 = .ok (.newarray .int, 2) := by decide +kernel
theorem dX2_init_33 : decode cX2_init 33 = .ok (.putfield 21, 3) := by decide +kernel
theorem dX2_init_36 : decode cX2_init 36 = .ok (.aload_n 0, 1) := by decide +kernel
theorem dX2_init_37 : decode cX2_init 37 = .ok (.bipush 6, 2) := by decide +kernel
theorem dX2_init_39 : decode cX2_init 39 = .ok (.newarray .int, 2) := by decide +kernel
theorem dX2_init_41 : decode cX2_init 41 = .ok (.putfield 24, 3) := by decide +kernel
theorem dX2_init_44 : decode cX2_init 44 = .ok (.aload_n 0, 1) := by decide +kernel
theorem dX2_init_45 : decode cX2_init 45 = .ok (.bipush 6, 2) := by decide +kernel
theorem dX2_init_47 : decode cX2_init 47 = .ok (.newarray .int, 2) := by decide +kernel
theorem dX2_init_49 : decode cX2_init 49 = .ok (.putfield 27, 3) := by decide +kernel
theorem dX2_init_52 : decode cX2_init 52 = .ok (.aload_n 0, 1) := by decide +kernel
theorem dX2_init_53 : decode cX2_init 53 = .ok (.bipush 24, 2) := by decide +kernel
theorem dX2_init_55 : decode cX2_init 55 = .ok (.newarray .int, 2) := by decide +kernel
theorem dX2_init_57 : decode cX2_init 57 = .ok (.putfield 30, 3) := by decide +kernel
theorem dX2_init_60 : decode cX2_init 60 = .ok (.aload_n 0, 1) := by decide +kernel
theorem dX2_init_61 : decode cX2_init 61 = .ok (.bipush 24, 2) := by decide +kernel
theorem dX2_init_63 : decode cX2_init 63 = .ok (.newarray .int, 2) := by decide +kernel
theorem dX2_init_65 : decode cX2_init 65 = .ok (.putfield 33, 3) := by decide +kernel
theorem dX2_init_68 : decode cX2_init 68 = .ok (.return_, 1) := by decide +kernel
set_option maxRecDepth 100000 in
set_option maxHeartbeats 8000000 in
theorem cc_X2 (l : Launch) (g : GC) : Cc l yX2_init cX2_init { frames := 1, cells := 8, slots := 96, locals := 44 } g 2 fz2 lam2 hz2 8 96 := by
  refine Cc.of (by decide +kernel) rfl (fun z a0 sz A hzl hA F => ?_)
  subst hzl
  refine c_ws (ws' := [(a0, .inr (2, [.int 0, .int 0, .int 0, .int 0, .int 0, .int 0, .int 0, .null, .null, .null, .null, .null, .null, .null, .null]))]) rfl ?_
  refine c_aload F dX2_init_0 rfl 0 rfl ?_
  refine c_obj F m77 m24 m25 (by decide) (by decide) rfl dX2_init_1 ?_
  refine c_aload F dX2_init_4 rfl 0 rfl ?_
  refine c_bipush F (v := 12) dX2_init_5 (by decide) ?_
  refine c_newa F 0 (ty := .int) (atype := .int) rfl (fun _ h => by cases h) rfl m42 (N := 12) (fun _ => rfl) (by decide) (by decide) (by decide) (by decide) (by decide) dX2_init_7 (fun q1 => ?_)
  refine c_ws (ws' := [(a0, .inr (2, [.int 0, .int 0, .int 0, .int 0, .int 0, .int 0, .int 0, .null, .null, .null, .null, .null, .null, .null, .null])), (q1, .inl (gtc g 0, 12, .inl (fun _ => 0)))]) rfl ?_
  refine c_putF F ciX2 0 7 (tt := .array .int) rfl (by decide) rfl rfl rfl rfl rfl rfl (Nat.le_of_ble_eq_true rfl) m99 dX2_init_9 ?_
  refine c_ws (ws' := [(a0, .inr (2, [.int 0, .int 0, .int 0, .int 0, .int 0, .int 0, .int 0, .ref q1, .null, .null, .null, .null, .null, .null, .null])), (q1, .inl (gtc g 0, 12, .inl (fun _ => 0)))]) rfl ?_
  refine c_aload F dX2_init_12 rfl 0 rfl ?_
  refine c_bipush F (v := 12) dX2_init_13 (by decide) ?_
  refine c_newa F 0 (ty := .int) (atype := .int) rfl (fun _ h => by cases h) rfl m42 (N := 12) (fun _ => rfl) (by decide) (by decide) (by decide) (by decide) (by decide) dX2_init_15 (fun q2 => ?_)
  refine c_ws (ws' := [(a0, .inr (2, [.int 0, .int 0, .int 0, .int 0, .int 0, .int 0, .int 0, .ref q1, .null, .null, .null, .null, .null, .null, .null])), (q1, .inl (gtc g 0, 12, .inl (fun _ => 0))), (q2, .inl (gtc g 0, 12, .inl (fun _ => 0)))]) rfl ?_
  refine c_putF F ciX2 0 8 (tt := .array .int) rfl (by decide) rfl rfl rfl rfl rfl rfl (Nat.le_of_ble_eq_true rfl) m102 dX2_init_17 ?_
  refine c_ws (ws' := [(a0, .inr (2, [.int 0, .int 0, .int 0, .int 0, .int 0, .int 0, .int 0, .ref q1, .ref q2, .null, .null, .null, .null, .null, .null])), (q1, .inl (gtc g 0, 12, .inl (fun _ => 0))), (q2, .inl (gtc g 0, 12, .inl (fun _ => 0)))]) rfl ?_
  refine c_aload F dX2_init_20 rfl 0 rfl ?_
  refine c_bipush F (v := 6) dX2_init_21 (by decide) ?_
  refine c_newa F 0 (ty := .int) (atype := .int) rfl (fun _ h => by cases h) rfl m42 (N := 6) (fun _ => rfl) (by decide) (by decide) (by decide) (by decide) (by decide) dX2_init_23 (fun q3 => ?_)
  refine c_ws (ws' := [(a0, .inr (2, [.int 0, .int 0, .int 0, .int 0, .int 0, .int 0, .int 0, .ref q1, .ref q2, .null, .null, .null, .null, .null, .null])), (q1, .inl (gtc g 0, 12, .inl (fun _ => 0))), (q2, .inl (gtc g 0, 12, .inl (fun _ => 0))), (q3, .inl (gtc g 0, 6, .inl (fun _ => 0)))]) rfl ?_
  refine c_putF F ciX2 0 9 (tt := .array .int) rfl (by decide) rfl rfl rfl rfl rfl rfl (Nat.le_of_ble_eq_true rfl) m104 dX2_init_25 ?_
  refine c_ws (ws' := [(a0, .inr (2, [.int 0, .int 0, .int 0, .int 0, .int 0, .int 0, .int 0, .ref q1, .ref q2, .ref q3, .null, .null, .null, .null, .null])), (q1, .inl (gtc g 0, 12, .inl (fun _ => 0))), (q2, .inl (gtc g 0, 12, .inl (fun _ => 0))), (q3, .inl (gtc g 0, 6, .inl (fun _ => 0)))]) rfl ?_
  refine c_aload F dX2_init_28 rfl 0 rfl ?_
  refine c_bipush F (v := 6) dX2_init_29 (by decide) ?_
  refine c_newa F 0 (ty := .int) (atype := .int) rfl (fun _ h => by cases h) rfl m42 (N := 6) (fun _ => rfl) (by decide) (by decide) (by decide) (by decide) (by decide) dX2_init_31 (fun q4 => ?_)
  refine c_ws (ws' := [(a0, .inr (2, [.int 0, .int 0, .int 0, .int 0, .int 0, .int 0, .int 0, .ref q1, .ref q2, .ref q3, .null, .null, .null, .null, .null])), (q1, .inl (gtc g 0, 12, .inl (fun _ => 0))), (q2, .inl (gtc g 0, 12, .inl (fun _ => 0))), (q3, .inl (gtc g 0, 6, .inl (fun _ => 0))), (q4, .inl (gtc g 0, 6, .inl (fun _ => 0)))]) rfl ?_
  refine c_putF F ciX2 0 10 (tt := .array .int) rfl (by decide) rfl rfl rfl rfl rfl rfl (Nat.le_of_ble_eq_true rfl) m107 dX2_init_33 ?_
  refine c_ws (ws' := [(a0, .inr (2, [.int 0, .int 0, .int 0, .int 0, .int 0, .int 0, .int 0, .ref q1, .ref q2, .ref q3, .ref q4, .null, .null, .null, .null])), (q1, .inl (gtc g 0, 12, .inl (fun _ => 0))), (q2, .inl (gtc g 0, 12, .inl (fun _ => 0))), (q3, .inl (gtc g 0, 6, .inl (fun _ => 0))), (q4, .inl (gtc g 0, 6, .inl (fun _ => 0)))]) rfl ?_
  refine c_aload F dX2_init_36 rfl 0 rfl ?_
  refine c_bipush F (v := 6) dX2_init_37 (by decide) ?_
  refine c_newa F 0 (ty := .int) (atype := .int) rfl (fun _ h => by cases h) rfl m42 (N := 6) (fun _ => rfl) (by decide) (by decide) (by decide) (by decide) (by decide) dX2_init_39 (fun q5 => ?_)
  refine c_ws (ws' := [(a0, .inr (2, [.int 0, .int 0, .int 0, .int 0, .int 0, .int 0, .int 0, .ref q1, .ref q2, .ref q3, .ref q4, .null, .null, .null, .null])), (q1, .inl (gtc g 0, 12, .inl (fun _ => 0))), (q2, .inl (gtc g 0, 12, .inl (fun _ => 0))), (q3, .inl (gtc g 0, 6, .inl (fun _ => 0))), (q4, .inl (gtc g 0, 6, .inl (fun _ => 0))), (q5, .inl (gtc g 0, 6, .inl (fun _ => 0)))]) rfl ?_
  refine c_putF F ciX2 0 11 (tt := .array .int) rfl (by decide) rfl rfl rfl rfl rfl rfl (Nat.le_of_ble_eq_true rfl) m110 dX2_init_41 ?_
  refine c_ws (ws' := [(a0, .inr (2, [.int 0, .int 0, .int 0, .int 0, .int 0, .int 0, .int 0, .ref q1, .ref q2, .ref q3, .ref q4, .ref q5, .null, .null, .null])), (q1, .inl (gtc g 0, 12, .inl (fun _ => 0))), (q2, .inl (gtc g 0, 12, .inl (fun _ => 0))), (q3, .inl (gtc g 0, 6, .inl (fun _ => 0))), (q4, .inl (gtc g 0, 6, .inl (fun _ => 0))), (q5, .inl (gtc g 0, 6, .inl (fun _ => 0)))]) rfl ?_
  refine c_aload F dX2_init_44 rfl 0 rfl ?_
  refine c_bipush F (v := 6) dX2_init_45 (by decide) ?_
  refine c_newa F 0 (ty := .int) (atype := .int) rfl (fun _ h => by cases h) rfl m42 (N := 6) (fun _ => rfl) (by decide) (by decide) (by decide) (by decide) (by decide) dX2_init_47 (fun q6 => ?_)
  refine c_ws (ws' := [(a0, .inr (2, [.int 0, .int 0, .int 0, .int 0, .int 0, .int 0, .int 0, .ref q1, .ref q2, .ref q3, .ref q4, .ref q5, .null, .null, .null])), (q1, .inl (gtc g 0, 12, .inl (fun _ => 0))), (q2, .inl (gtc g 0, 12, .inl (fun _ => 0))), (q3, .inl (gtc g 0, 6, .inl (fun _ => 0))), (q4, .inl (gtc g 0, 6, .inl (fun _ => 0))), (q5, .inl (gtc g 0, 6, .inl (fun _ => 0))), (q6, .inl (gtc g 0, 6, .inl (fun _ => 0)))]) rfl ?_
  refine c_putF F ciX2 0 12 (tt := .array .int) rfl (by decide) rfl rfl rfl rfl rfl rfl (Nat.le_of_ble_eq_true rfl) m114 dX2_init_49 ?_
  refine c_ws (ws' := [(a0, .inr (2, [.int 0, .int 0, .int 0, .int 0, .int 0, .int 0, .int 0, .ref q1, .ref q2, .ref q3, .ref q4, .ref q5, .ref q6, .null, .null])), (q1, .inl (gtc g 0, 12, .inl (fun _ => 0))), (q2, .inl (gtc g 0, 12, .inl (fun _ => 0))), (q3, .inl (gtc g 0, 6, .inl (fun _ => 0))), (q4, .inl (gtc g 0, 6, .inl (fun _ => 0))), (q5, .inl (gtc g 0, 6, .inl (fun _ => 0))), (q6, .inl (gtc g 0, 6, .inl (fun _ => 0)))]) rfl ?_
  refine c_aload F dX2_init_52 rfl 0 rfl ?_
  refine c_bipush F (v := 24) dX2_init_53 (by decide) ?_
  refine c_newa F 0 (ty := .int) (atype := .int) rfl (fun _ h => by cases h) rfl m42 (N := 24) (fun _ => rfl) (by decide) (by decide) (by decide) (by decide) (by decide) dX2_init_55 (fun q7 => ?_)
  refine c_ws (ws' := [(a0, .inr (2, [.int 0, .int 0, .int 0, .int 0, .int 0, .int 0, .int 0, .ref q1, .ref q2, .ref q3, .ref q4, .ref q5, .ref q6, .null, .null])), (q1, .inl (gtc g 0, 12, .inl (fun _ => 0))), (q2, .inl (gtc g 0, 12, .inl (fun _ => 0))), (q3, .inl (gtc g 0, 6, .inl (fun _ => 0))), (q4, .inl (gtc g 0, 6, .inl (fun _ => 0))), (q5, .inl (gtc g 0, 6, .inl (fun _ => 0))), (q6, .inl (gtc g 0, 6, .inl (fun _ => 0))), (q7, .inl (gtc g 0, 24, .inl (fun _ => 0)))]) rfl ?_
  refine c_putF F ciX2 0 13 (tt := .array .int) rfl (by decide) rfl rfl rfl rfl rfl rfl (Nat.le_of_ble_eq_true rfl) m118 dX2_init_57 ?_
  refine c_ws (ws' := [(a0, .inr (2, [.int 0, .int 0, .int 0, .int 0, .int 0, .int 0, .int 0, .ref q1, .ref q2, .ref q3, .ref q4, .ref q5, .ref q6, .ref q7, .null])), (q1, .inl (gtc g 0, 12, .inl (fun _ => 0))), (q2, .inl (gtc g 0, 12, .inl (fun _ => 0))), (q3, .inl (gtc g 0, 6, .inl (fun _ => 0))), (q4, .inl (gtc g 0, 6, .inl (fun _ => 0))), (q5, .inl (gtc g 0, 6, .inl (fun _ => 0))), (q6, .inl (gtc g 0, 6, .inl (fun _ => 0))), (q7, .inl (gtc g 0, 24, .inl (fun _ => 0)))]) rfl ?_
  refine c_aload F dX2_init_60 rfl 0 rfl ?_
  refine c_bipush F (v := 24) dX2_init_61 (by decide) ?_
  refine c_newa F 0 (ty := .int) (atype := .int) rfl (fun _ h => by cases h) rfl m42 (N := 24) (fun _ => rfl) (by decide) (by decide) (by decide) (by decide) (by decide) dX2_init_63 (fun q8 => ?_)
  refine c_ws (ws' := [(a0, .inr (2, [.int 0, .int 0, .int 0, .int 0, .int 0, .int 0, .int 0, .ref q1, .ref q2, .ref q3, .ref q4, .ref q5, .ref q6, .ref q7, .null])), (q1, .inl (gtc g 0, 12, .inl (fun _ => 0))), (q2, .inl (gtc g 0, 12, .inl (fun _ => 0))), (q3, .inl (gtc g 0, 6, .inl (fun _ => 0))), (q4, .inl (gtc g 0, 6, .inl (fun _ => 0))), (q5, .inl (gtc g 0, 6, .inl (fun _ => 0))), (q6, .inl (gtc g 0, 6, .inl (fun _ => 0))), (q7, .inl (gtc g 0, 24, .inl (fun _ => 0))), (q8, .inl (gtc g 0, 24, .inl (fun _ => 0)))]) rfl ?_
  refine c_putF F ciX2 0 14 (tt := .array .int) rfl (by decide) rfl rfl rfl rfl rfl rfl (Nat.le_of_ble_eq_true rfl) m120 dX2_init_65 ?_
  refine c_ws (ws' := [(a0, .inr (2, [.int 0, .int 0, .int 0, .int 0, .int 0, .int 0, .int 0, .ref q1, .ref q2, .ref q3, .ref q4, .ref q5, .ref q6, .ref q7, .ref q8])), (q1, .inl (gtc g 0, 12, .inl (fun _ => 0))), (q2, .inl (gtc g 0, 12, .inl (fun _ => 0))), (q3, .inl (gtc g 0, 6, .inl (fun _ => 0))), (q4, .inl (gtc g 0, 6, .inl (fun _ => 0))), (q5, .inl (gtc g 0, 6, .inl (fun _ => 0))), (q6, .inl (gtc g 0, 6, .inl (fun _ => 0))), (q7, .inl (gtc g 0, 24, .inl (fun _ => 0))), (q8, .inl (gtc g 0, 24, .inl (fun _ => 0)))]) rfl ?_
  exact c_ret F (fun i => [a0, q1, q2, q3, q4, q5, q6, q7, q8].getD i 0) (by decide) (by decide) rfl rfl hA dX2_init_68
theorem dX3_init_0 : decode cX3_init 0 = .ok (.aload_n 0, 1) := by decide +kernel
theorem dX3_init_1 : decode cX3_init 1 = .ok (.invokespecial 3, 3) := by decide +kernel
theorem dX3_init_4 : decode cX3_init 4 = .ok (.aload_n 0, 1) := by decide +kernel
theorem dX3_init_5 : decode cX3_init 5 = .ok (.bipush 36, 2) := by decide +kernel
theorem dX3_init_7 : decode cX3_init 7 = .ok (.newarray .int, 2) := by decide +kernel
theorem dX3_init_9 : decode cX3_init 9 = .ok (.putfield 9, 3) := by decide +kernel
theorem dX3_init_12 : decode cX3_init 12 = .ok (.aload_n 0, 1) := by decide +kernel
theorem dX3_init_13 : decode cX3_init 13 = .ok (.bipush 6, 2) := by decide +kernel
theorem dX3_init_15 : decode cX3_init 15 = .ok (.newarray .int, 2) := by decide +kernel
theorem dX3_init_17 : decode cX3_init 17 = .ok (.putfield 15, 3) := by decide +kernel
theorem dX3_init_20 : decode cX3_init 20 = .ok (.aload_n 0, 1) := by decide +kernel
theorem dX3_init_21 : decode cX3_init 21 = .ok (.bipush 6, 2) := by decide +kernel
theorem dX3_init_23 : decode cX3_init 23 = .ok (.newarray .int, 2) := by decide +kernel
theorem dX3_init_25 : decode cX3_init 25 = .ok (.putfield 18, 3) := by decide +kernel
theorem dX3_init_28 : decode cX3_init 28 = .ok (.aload_n 0, 1) := by decide +kernel
theorem dX3_init_29 : decode cX3_init 29 = .ok (.bipush 6, 2) := by decide +kernel
theorem dX3_init_31 : decode cX3_init 31 = .ok (.newarray .int, 2) := by decide +kernel
theorem dX3_init_33 : decode cX3_init 33 = .ok (.putfield 21, 3) := by decide +kernel
theorem dX3_init_36 : decode cX3_init 36 = .ok (.aload_n 0, 1) := by decide +kernel
theorem dX3_init_37 : decode cX3_init 37 = .ok (.bipush 6, 2) := by decide +kernel
theorem dX3_init_39 : decode cX3_init 39 = .ok (.newarray .int, 2) := by decide +kernel
theorem dX3_init_41 : decode cX3_init 41 = .ok (.putfield 24, 3) := by decide +kernel
theorem dX3_init_44 : decode cX3_init 44 = .ok (.aload_n 0, 1) := by decide +kernel
theorem dX3_init_45 : decode cX3_init 45 = .ok (.bipush 6, 2) := by decide +kernel
theorem dX3_init_47 : decode cX3_init 47 = .ok (.newarray .int, 2) := by decide +kernel
theorem dX3_init_49 : decode cX3_init 49 = .ok (.putfield 27, 3) := by decide +kernel
theorem dX3_init_52 : decode cX3_init 52 = .ok (.aload_n 0, 1) := by decide +kernel
theorem dX3_init_53 : decode cX3_init 53 = .ok (.bipush 6, 2) := by decide +kernel
theorem dX3_init_55 : decode cX3_init 55 = .ok (.newarray .int, 2) := by decide +kernel
theorem dX3_init_57 : decode cX3_init 57 = .ok (.putfield 30, 3) := by decide +kernel
theorem dX3_init_60 : decode cX3_init 60 = .ok (.aload_n 0, 1) := by decide +kernel
theorem dX3_init_61 : decode cX3_init 61 = .ok (.bipush 6, 2) := by decide +kernel
theorem dX3_init_63 : decode cX3_init 63 = .ok (.newarray .int, 2) := by decide +kernel
theorem dX3_init_65 : decode cX3_init 65 = .ok (.putfield 33, 3) := by decide +kernel
theorem dX3_init_68 : decode cX3_init 68 = .ok (.return_, 1) := by decide +kernel
set_option maxRecDepth 100000 in
set_option maxHeartbeats 8000000 in
theorem cc_X3 (l : Launch) (g : GC) : Cc l yX3_init cX3_init { frames := 1, cells := 8, slots := 78, locals := 44 } g 3 fz3 lam3 hz3 8 78 := by
  refine Cc.of (by decide +kernel) rfl (fun z a0 sz A hzl hA F => ?_)
  subst hzl
  refine c_ws (ws' := [(a0, .inr (3, [.null, .null, .null, .null, .null, .null, .null, .null, .int 0, .int 0, .int 0]))]) rfl ?_
  refine c_aload F dX3_init_0 rfl 0 rfl ?_
  refine c_obj F m191 m24 m25 (by decide) (by decide) rfl dX3_init_1 ?_
  refine c_aload F dX3_init_4 rfl 0 rfl ?_
  refine c_bipush F (v := 36) dX3_init_5 (by decide) ?_
  refine c_newa F 0 (ty := .int) (atype := .int) rfl (fun _ h => by cases h) rfl m42 (N := 36) (fun _ => rfl) (by decide) (by decide) (by decide) (by decide) (by decide) dX3_init_7 (fun q1 => ?_)
  refine c_ws (ws' := [(a0, .inr (3, [.null, .null, .null, .null, .null, .null, .null, .null, .int 0, .int 0, .int 0])), (q1, .inl (gtc g 0, 36, .inl (fun _ => 0)))]) rfl ?_
  refine c_putF F ciX3 0 0 (tt := .array .int) rfl (by decide) rfl rfl rfl rfl rfl rfl (Nat.le_of_ble_eq_true rfl) m192 dX3_init_9 ?_
  refine c_ws (ws' := [(a0, .inr (3, [.ref q1, .null, .null, .null, .null, .null, .null, .null, .int 0, .int 0, .int 0])), (q1, .inl (gtc g 0, 36, .inl (fun _ => 0)))]) rfl ?_
  refine c_aload F dX3_init_12 rfl 0 rfl ?_
  refine c_bipush F (v := 6) dX3_init_13 (by decide) ?_
  refine c_newa F 0 (ty := .int) (atype := .int) rfl (fun _ h => by cases h) rfl m42 (N := 6) (fun _ => rfl) (by decide) (by decide) (by decide) (by decide) (by decide) dX3_init_15 (fun q2 => ?_)
  refine c_ws (ws' := [(a0, .inr (3, [.ref q1, .null, .null, .null, .null, .null, .null, .null, .int 0, .int 0, .int 0])), (q1, .inl (gtc g 0, 36, .inl (fun _ => 0))), (q2, .inl (gtc g 0, 6, .inl (fun _ => 0)))]) rfl ?_
  refine c_putF F ciX3 0 1 (tt := .array .int) rfl (by decide) rfl rfl rfl rfl rfl rfl (Nat.le_of_ble_eq_true rfl) m193 dX3_init_17 ?_
  refine c_ws (ws' := [(a0, .inr (3, [.ref q1, .ref q2, .null, .null, .null, .null, .null, .null, .int 0, .int 0, .int 0])), (q1, .inl (gtc g 0, 36, .inl (fun _ => 0))), (q2, .inl (gtc g 0, 6, .inl (fun _ => 0)))]) rfl ?_
  refine c_aload F dX3_init_20 rfl 0 rfl ?_
  refine c_bipush F (v := 6) dX3_init_21 (by decide) ?_
  refine c_newa F 0 (ty := .int) (atype := .int) rfl (fun _ h => by cases h) rfl m42 (N := 6) (fun _ => rfl) (by decide) (by decide) (by decide) (by decide) (by decide) dX3_init_23 (fun q3 => ?_)
  refine c_ws (ws' := [(a0, .inr (3, [.ref q1, .ref q2, .null, .null, .null, .null, .null, .null, .int 0, .int 0, .int 0])), (q1, .inl (gtc g 0, 36, .inl (fun _ => 0))), (q2, .inl (gtc g 0, 6, .inl (fun _ => 0))), (q3, .inl (gtc g 0, 6, .inl (fun _ => 0)))]) rfl ?_
  refine c_putF F ciX3 0 2 (tt := .array .int) rfl (by decide) rfl rfl rfl rfl rfl rfl (Nat.le_of_ble_eq_true rfl) m194 dX3_init_25 ?_
  refine c_ws (ws' := [(a0, .inr (3, [.ref q1, .ref q2, .ref q3, .null, .null, .null, .null, .null, .int 0, .int 0, .int 0])), (q1, .inl (gtc g 0, 36, .inl (fun _ => 0))), (q2, .inl (gtc g 0, 6, .inl (fun _ => 0))), (q3, .inl (gtc g 0, 6, .inl (fun _ => 0)))]) rfl ?_
  refine c_aload F dX3_init_28 rfl 0 rfl ?_
  refine c_bipush F (v := 6) dX3_init_29 (by decide) ?_
  refine c_newa F 0 (ty := .int) (atype := .int) rfl (fun _ h => by cases h) rfl m42 (N := 6) (fun _ => rfl) (by decide) (by decide) (by decide) (by decide) (by decide) dX3_init_31 (fun q4 => ?_)
  refine c_ws (ws' := [(a0, .inr (3, [.ref q1, .ref q2, .ref q3, .null, .null, .null, .null, .null, .int 0, .int 0, .int 0])), (q1, .inl (gtc g 0, 36, .inl (fun _ => 0))), (q2, .inl (gtc g 0, 6, .inl (fun _ => 0))), (q3, .inl (gtc g 0, 6, .inl (fun _ => 0))), (q4, .inl (gtc g 0, 6, .inl (fun _ => 0)))]) rfl ?_
  refine c_putF F ciX3 0 3 (tt := .array .int) rfl (by decide) rfl rfl rfl rfl rfl rfl (Nat.le_of_ble_eq_true rfl) m195 dX3_init_33 ?_
  refine c_ws (ws' := [(a0, .inr (3, [.ref q1, .ref q2, .ref q3, .ref q4, .null, .null, .null, .null, .int 0, .int 0, .int 0])), (q1, .inl (gtc g 0, 36, .inl (fun _ => 0))), (q2, .inl (gtc g 0, 6, .inl (fun _ => 0))), (q3, .inl (gtc g 0, 6, .inl (fun _ => 0))), (q4, .inl (gtc g 0, 6, .inl (fun _ => 0)))]) rfl ?_
  refine c_aload F dX3_init_36 rfl 0 rfl ?_
  refine c_bipush F (v := 6) dX3_init_37 (by decide) ?_
  refine c_newa F 0 (ty := .int) (atype := .int) rfl (fun _ h => by cases h) rfl m42 (N := 6) (fun _ => rfl) (by decide) (by decide) (by decide) (by decide) (by decide) dX3_init_39 (fun q5 => ?_)
  refine c_ws (ws' := [(a0, .inr (3, [.ref q1, .ref q2, .ref q3, .ref q4, .null, .null, .null, .null, .int 0, .int 0, .int 0])), (q1, .inl (gtc g 0, 36, .inl (fun _ => 0))), (q2, .inl (gtc g 0, 6, .inl (fun _ => 0))), (q3, .inl (gtc g 0, 6, .inl (fun _ => 0))), (q4, .inl (gtc g 0, 6, .inl (fun _ => 0))), (q5, .inl (gtc g 0, 6, .inl (fun _ => 0)))]) rfl ?_
  refine c_putF F ciX3 0 4 (tt := .array .int) rfl (by decide) rfl rfl rfl rfl rfl rfl (Nat.le_of_ble_eq_true rfl) m196 dX3_init_41 ?_
  refine c_ws (ws' := [(a0, .inr (3, [.ref q1, .ref q2, .ref q3, .ref q4, .ref q5, .null, .null, .null, .int 0, .int 0, .int 0])), (q1, .inl (gtc g 0, 36, .inl (fun _ => 0))), (q2, .inl (gtc g 0, 6, .inl (fun _ => 0))), (q3, .inl (gtc g 0, 6, .inl (fun _ => 0))), (q4, .inl (gtc g 0, 6, .inl (fun _ => 0))), (q5, .inl (gtc g 0, 6, .inl (fun _ => 0)))]) rfl ?_
  refine c_aload F dX3_init_44 rfl 0 rfl ?_
  refine c_bipush F (v := 6) dX3_init_45 (by decide) ?_
  refine c_newa F 0 (ty := .int) (atype := .int) rfl (fun _ h => by cases h) rfl m42 (N := 6) (fun _ => rfl) (by decide) (by decide) (by decide) (by decide) (by decide) dX3_init_47 (fun q6 => ?_)
  refine c_ws (ws' := [(a0, .inr (3, [.ref q1, .ref q2, .ref q3, .ref q4, .ref q5, .null, .null, .null, .int 0, .int 0, .int 0])), (q1, .inl (gtc g 0, 36, .inl (fun _ => 0))), (q2, .inl (gtc g 0, 6, .inl (fun _ => 0))), (q3, .inl (gtc g 0, 6, .inl (fun _ => 0))), (q4, .inl (gtc g 0, 6, .inl (fun _ => 0))), (q5, .inl (gtc g 0, 6, .inl (fun _ => 0))), (q6, .inl (gtc g 0, 6, .inl (fun _ => 0)))]) rfl ?_
  refine c_putF F ciX3 0 5 (tt := .array .int) rfl (by decide) rfl rfl rfl rfl rfl rfl (Nat.le_of_ble_eq_true rfl) m197 dX3_init_49 ?_
  refine c_ws (ws' := [(a0, .inr (3, [.ref q1, .ref q2, .ref q3, .ref q4, .ref q5, .ref q6, .null, .null, .int 0, .int 0, .int 0])), (q1, .inl (gtc g 0, 36, .inl (fun _ => 0))), (q2, .inl (gtc g 0, 6, .inl (fun _ => 0))), (q3, .inl (gtc g 0, 6, .inl (fun _ => 0))), (q4, .inl (gtc g 0, 6, .inl (fun _ => 0))), (q5, .inl (gtc g 0, 6, .inl (fun _ => 0))), (q6, .inl (gtc g 0, 6, .inl (fun _ => 0)))]) rfl ?_
  refine c_aload F dX3_init_52 rfl 0 rfl ?_
  refine c_bipush F (v := 6) dX3_init_53 (by decide) ?_
  refine c_newa F 0 (ty := .int) (atype := .int) rfl (fun _ h => by cases h) rfl m42 (N := 6) (fun _ => rfl) (by decide) (by decide) (by decide) (by decide) (by decide) dX3_init_55 (fun q7 => ?_)
  refine c_ws (ws' := [(a0, .inr (3, [.ref q1, .ref q2, .ref q3, .ref q4, .ref q5, .ref q6, .null, .null, .int 0, .int 0, .int 0])), (q1, .inl (gtc g 0, 36, .inl (fun _ => 0))), (q2, .inl (gtc g 0, 6, .inl (fun _ => 0))), (q3, .inl (gtc g 0, 6, .inl (fun _ => 0))), (q4, .inl (gtc g 0, 6, .inl (fun _ => 0))), (q5, .inl (gtc g 0, 6, .inl (fun _ => 0))), (q6, .inl (gtc g 0, 6, .inl (fun _ => 0))), (q7, .inl (gtc g 0, 6, .inl (fun _ => 0)))]) rfl ?_
  refine c_putF F ciX3 0 6 (tt := .array .int) rfl (by decide) rfl rfl rfl rfl rfl rfl (Nat.le_of_ble_eq_true rfl) m198 dX3_init_57 ?_
  refine c_ws (ws' := [(a0, .inr (3, [.ref q1, .ref q2, .ref q3, .ref q4, .ref q5, .ref q6, .ref q7, .null, .int 0, .int 0, .int 0])), (q1, .inl (gtc g 0, 36, .inl (fun _ => 0))), (q2, .inl (gtc g 0, 6, .inl (fun _ => 0))), (q3, .inl (gtc g 0, 6, .inl (fun _ => 0))), (q4, .inl (gtc g 0, 6, .inl (fun _ => 0))), (q5, .inl (gtc g 0, 6, .inl (fun _ => 0))), (q6, .inl (gtc g 0, 6, .inl (fun _ => 0))), (q7, .inl (gtc g 0, 6, .inl (fun _ => 0)))]) rfl ?_
  refine c_aload F dX3_init_60 rfl 0 rfl ?_
  refine c_bipush F (v := 6) dX3_init_61 (by decide) ?_
  refine c_newa F 0 (ty := .int) (atype := .int) rfl (fun _ h => by cases h) rfl m42 (N := 6) (fun _ => rfl) (by decide) (by decide) (by decide) (by decide) (by decide) dX3_init_63 (fun q8 => ?_)
  refine c_ws (ws' := [(a0, .inr (3, [.ref q1, .ref q2, .ref q3, .ref q4, .ref q5, .ref q6, .ref q7, .null, .int 0, .int 0, .int 0])), (q1, .inl (gtc g 0, 36, .inl (fun _ => 0))), (q2, .inl (gtc g 0, 6, .inl (fun _ => 0))), (q3, .inl (gtc g 0, 6, .inl (fun _ => 0))), (q4, .inl (gtc g 0, 6, .inl (fun _ => 0))), (q5, .inl (gtc g 0, 6, .inl (fun _ => 0))), (q6, .inl (gtc g 0, 6, .inl (fun _ => 0))), (q7, .inl (gtc g 0, 6, .inl (fun _ => 0))), (q8, .inl (gtc g 0, 6, .inl (fun _ => 0)))]) rfl ?_
  refine c_putF F ciX3 0 7 (tt := .array .int) rfl (by decide) rfl rfl rfl rfl rfl rfl (Nat.le_of_ble_eq_true rfl) m199 dX3_init_65 ?_
  refine c_ws (ws' := [(a0, .inr (3, [.ref q1, .ref q2, .ref q3, .ref q4, .ref q5, .ref q6, .ref q7, .ref q8, .int 0, .int 0, .int 0])), (q1, .inl (gtc g 0, 36, .inl (fun _ => 0))), (q2, .inl (gtc g 0, 6, .inl (fun _ => 0))), (q3, .inl (gtc g 0, 6, .inl (fun _ => 0))), (q4, .inl (gtc g 0, 6, .inl (fun _ => 0))), (q5, .inl (gtc g 0, 6, .inl (fun _ => 0))), (q6, .inl (gtc g 0, 6, .inl (fun _ => 0))), (q7, .inl (gtc g 0, 6, .inl (fun _ => 0))), (q8, .inl (gtc g 0, 6, .inl (fun _ => 0)))]) rfl ?_
  exact c_ret F (fun i => [a0, q1, q2, q3, q4, q5, q6, q7, q8].getD i 0) (by decide) (by decide) rfl rfl hA dX3_init_68
theorem dX5_init_0 : decode cX5_init 0 = .ok (.aload_n 0, 1) := by decide +kernel
theorem dX5_init_1 : decode cX5_init 1 = .ok (.invokespecial 1, 3) := by decide +kernel
theorem dX5_init_4 : decode cX5_init 4 = .ok (.aload_n 0, 1) := by decide +kernel
theorem dX5_init_5 : decode cX5_init 5 = .ok (.bipush 8, 2) := by decide +kernel
theorem dX5_init_7 : decode cX5_init 7 = .ok (.newarray .int, 2) := by decide +kernel
theorem dX5_init_9 : decode cX5_init 9 = .ok (.putfield 9, 3) := by decide +kernel
theorem dX5_init_12 : decode cX5_init 12 = .ok (.aload_n 0, 1) := by decide +kernel
theorem dX5_init_13 : decode cX5_init 13 = .ok (.bipush 8, 2) := by decide +kernel
theorem dX5_init_15 : decode cX5_init 15 = .ok (.newarray .int, 2) := by decide +kernel
theorem dX5_init_17 : decode cX5_init 17 = .ok (.dup, 1) := by decide +kernel
theorem dX5_init_18 : decode cX5_init 18 = .ok (.iconst 0, 1) := by decide +kernel
theorem dX5_init_19 : decode cX5_init 19 = .ok (.iconst (-1), 1) := by decide +kernel
theorem dX5_init_20 : decode cX5_init 20 = .ok (.iastore, 1) := by decide +kernel
theorem dX5_init_21 : decode cX5_init 21 = .ok (.dup, 1) := by decide +kernel
theorem dX5_init_22 : decode cX5_init 22 = .ok (.iconst 1, 1) := by decide +kernel
theorem dX5_init_23 : decode cX5_init 23 = .ok (.iconst (-1), 1) := by decide +kernel
theorem dX5_init_24 : decode cX5_init 24 = .ok (.iastore, 1) := by decide +kernel
theorem dX5_init_25 : decode cX5_init 25 = .ok (.dup, 1) := by decide +kernel
theorem dX5_init_26 : decode cX5_init 26 = .ok (.iconst 2, 1) := by decide +kernel
theorem dX5_init_27 : decode cX5_init 27 = .ok (.iconst (-1), 1) := by decide +kernel
theorem dX5_init_28 : decode cX5_init 28 = .ok (.iastore, 1) := by decide +kernel
theorem dX5_init_29 : decode cX5_init 29 = .ok (.dup, 1) := by decide +kernel
theorem dX5_init_30 : decode cX5_init 30 = .ok (.iconst 3, 1) := by decide +kernel
theorem dX5_init_31 : decode cX5_init 31 = .ok (.iconst (-1), 1) := by decide +kernel
theorem dX5_init_32 : decode cX5_init 32 = .ok (.iastore, 1) := by decide +kernel
theorem dX5_init_33 : decode cX5_init 33 = .ok (.dup, 1) := by decide +kernel
theorem dX5_init_34 : decode cX5_init 34 = .ok (.iconst 4, 1) := by decide +kernel
theorem dX5_init_35 : decode cX5_init 35 = .ok (.iconst (-1), 1) := by decide +kernel
theorem dX5_init_36 : decode cX5_init 36 = .ok (.iastore, 1) := by decide +kernel
theorem dX5_init_37 : decode cX5_init 37 = .ok (.dup, 1) := by decide +kernel
theorem dX5_init_38 : decode cX5_init 38 = .ok (.iconst 5, 1) := by decide +kernel
theorem dX5_init_39 : decode cX5_init 39 = .ok (.iconst (-1), 1) := by decide +kernel
theorem dX5_init_40 : decode cX5_init 40 = .ok (.iastore, 1) := by decide +kernel
theorem dX5_init_41 : decode cX5_init 41 = .ok (.dup, 1) := by decide +kernel
theorem dX5_init_42 : decode cX5_init 42 = .ok (.bipush 6, 2) := by decide +kernel
theorem dX5_init_44 : decode cX5_init 44 = .ok (.iconst (-1), 1) := by decide +kernel
theorem dX5_init_45 : decode cX5_init 45 = .ok (.iastore, 1) := by decide +kernel
theorem dX5_init_46 : decode cX5_init 46 = .ok (.dup, 1) := by decide +kernel
theorem dX5_init_47 : decode cX5_init 47 = .ok (.bipush 7, 2) := by decide +kernel
theorem dX5_init_49 : decode cX5_init 49 = .ok (.iconst (-1), 1) := by decide +kernel
theorem dX5_init_50 : decode cX5_init 50 = .ok (.iastore, 1) := by decide +kernel
theorem dX5_init_51 : decode cX5_init 51 = .ok (.putfield 13, 3) := by decide +kernel
theorem dX5_init_54 : decode cX5_init 54 = .ok (.aload_n 0, 1) := by decide +kernel
theorem dX5_init_55 : decode cX5_init 55 = .ok (.sipush 320, 3) := by decide +kernel
theorem dX5_init_58 : decode cX5_init 58 = .ok (.newarray .int, 2) := by decide +kernel
theorem dX5_init_60 : decode cX5_init 60 = .ok (.putfield 16, 3) := by decide +kernel
theorem dX5_init_63 : decode cX5_init 63 = .ok (.return_, 1) := by decide +kernel
set_option maxRecDepth 100000 in
set_option maxHeartbeats 8000000 in
theorem cc_X5 (l : Launch) (g : GC) : Cc l yX5_init cX5_init { frames := 1, cells := 3, slots := 336, locals := 44 } g 5 fz5 lam5 hz5 3 336 := by
  refine Cc.of (by decide +kernel) rfl (fun z a0 sz A hzl hA F => ?_)
  subst hzl
  refine c_ws (ws' := [(a0, .inr (5, [.null, .null, .null]))]) rfl ?_
  refine c_aload F dX5_init_0 rfl 0 rfl ?_
  refine c_obj F m31 m24 m25 (by decide) (by decide) rfl dX5_init_1 ?_
  refine c_aload F dX5_init_4 rfl 0 rfl ?_
  refine c_bipush F (v := 8) dX5_init_5 (by decide) ?_
  refine c_newa F 0 (ty := .int) (atype := .int) rfl (fun _ h => by cases h) rfl m42 (N := 8) (fun _ => rfl) (by decide) (by decide) (by decide) (by decide) (by decide) dX5_init_7 (fun q1 => ?_)
  refine c_ws (ws' := [(a0, .inr (5, [.null, .null, .null])), (q1, .inl (gtc g 0, 8, .inl (fun _ => 0)))]) rfl ?_
  refine c_putF F ciX5 0 0 (tt := .array .int) rfl (by decide) rfl rfl rfl rfl rfl rfl (Nat.le_of_ble_eq_true rfl) m32 dX5_init_9 ?_
  refine c_ws (ws' := [(a0, .inr (5, [.ref q1, .null, .null])), (q1, .inl (gtc g 0, 8, .inl (fun _ => 0)))]) rfl ?_
  refine c_aload F dX5_init_12 rfl 0 rfl ?_
  refine c_bipush F (v := 8) dX5_init_13 (by decide) ?_
  refine c_newa F 0 (ty := .int) (atype := .int) rfl (fun _ h => by cases h) rfl m42 (N := 8) (fun _ => rfl) (by decide) (by decide) (by decide) (by decide) (by decide) dX5_init_15 (fun q2 => ?_)
  refine c_ws (ws' := [(a0, .inr (5, [.ref q1, .null, .null])), (q1, .inl (gtc g 0, 8, .inl (fun _ => 0))), (q2, .inl (gtc g 0, 8, .inl (fun _ => 0)))]) rfl ?_
  refine c_dup F dX5_init_17 rfl ?_
  refine c_iconst F (v := 0) dX5_init_18 (by decide) ?_
  refine c_iconst F (v := (-1)) dX5_init_19 (by decide) ?_
  refine c_iast F 2 0 (by decide) rfl (by unfold vp_in; decide) dX5_init_20 ?_
  refine c_ws (ws' := [(a0, .inr (5, [.ref q1, .null, .null])), (q1, .inl (gtc g 0, 8, .inl (fun _ => 0))), (q2, .inl (gtc g 0, 8, .inl (upd (fun _ => 0) 0 (-1))))]) rfl ?_
  refine c_dup F dX5_init_21 rfl ?_
  refine c_iconst F (v := 1) dX5_init_22 (by decide) ?_
  refine c_iconst F (v := (-1)) dX5_init_23 (by decide) ?_
  refine c_iast F 2 1 (by decide) rfl (by unfold vp_in; decide) dX5_init_24 ?_
  refine c_ws (ws' := [(a0, .inr (5, [.ref q1, .null, .null])), (q1, .inl (gtc g 0, 8, .inl (fun _ => 0))), (q2, .inl (gtc g 0, 8, .inl (upd (upd (fun _ => 0) 0 (-1)) 1 (-1))))]) rfl ?_
  refine c_dup F dX5_init_25 rfl ?_
  refine c_iconst F (v := 2) dX5_init_26 (by decide) ?_
  refine c_iconst F (v := (-1)) dX5_init_27 (by decide) ?_
  refine c_iast F 2 2 (by decide) rfl (by unfold vp_in; decide) dX5_init_28 ?_
  refine c_ws (ws' := [(a0, .inr (5, [.ref q1, .null, .null])), (q1, .inl (gtc g 0, 8, .inl (fun _ => 0))), (q2, .inl (gtc g 0, 8, .inl (upd (upd (upd (fun _ => 0) 0 (-1)) 1 (-1)) 2 (-1))))]) rfl ?_
  refine c_dup F dX5_init_29 rfl ?_
  refine c_iconst F (v := 3) dX5_init_30 (by decide) ?_
  refine c_iconst F (v := (-1)) dX5_init_31 (by decide) ?_
  refine c_iast F 2 3 (by decide) rfl (by unfold vp_in; decide) dX5_init_32 ?_
  refine c_ws (ws' := [(a0, .inr (5, [.ref q1, .null, .null])), (q1, .inl (gtc g 0, 8, .inl (fun _ => 0))), (q2, .inl (gtc g 0, 8, .inl (upd (upd (upd (upd (fun _ => 0) 0 (-1)) 1 (-1)) 2 (-1)) 3 (-1))))]) rfl ?_
  refine c_dup F dX5_init_33 rfl ?_
  refine c_iconst F (v := 4) dX5_init_34 (by decide) ?_
  refine c_iconst F (v := (-1)) dX5_init_35 (by decide) ?_
  refine c_iast F 2 4 (by decide) rfl (by unfold vp_in; decide) dX5_init_36 ?_
  refine c_ws (ws' := [(a0, .inr (5, [.ref q1, .null, .null])), (q1, .inl (gtc g 0, 8, .inl (fun _ => 0))), (q2, .inl (gtc g 0, 8, .inl (upd (upd (upd (upd (upd (fun _ => 0) 0 (-1)) 1 (-1)) 2 (-1)) 3 (-1)) 4 (-1))))]) rfl ?_
  refine c_dup F dX5_init_37 rfl ?_
  refine c_iconst F (v := 5) dX5_init_38 (by decide) ?_
  refine c_iconst F (v := (-1)) dX5_init_39 (by decide) ?_
  refine c_iast F 2 5 (by decide) rfl (by unfold vp_in; decide) dX5_init_40 ?_
  refine c_ws (ws' := [(a0, .inr (5, [.ref q1, .null, .null])), (q1, .inl (gtc g 0, 8, .inl (fun _ => 0))), (q2, .inl (gtc g 0, 8, .inl (upd (upd (upd (upd (upd (upd (fun _ => 0) 0 (-1)) 1 (-1)) 2 (-1)) 3 (-1)) 4 (-1)) 5 (-1))))]) rfl ?_
  refine c_dup F dX5_init_41 rfl ?_
  refine c_bipush F (v := 6) dX5_init_42 (by decide) ?_
  refine c_iconst F (v := (-1)) dX5_init_44 (by decide) ?_
  refine c_iast F 2 6 (by decide) rfl (by unfold vp_in; decide) dX5_init_45 ?_
  refine c_ws (ws' := [(a0, .inr (5, [.ref q1, .null, .null])), (q1, .inl (gtc g 0, 8, .inl (fun _ => 0))), (q2, .inl (gtc g 0, 8, .inl (upd (upd (upd (upd (upd (upd (upd (fun _ => 0) 0 (-1)) 1 (-1)) 2 (-1)) 3 (-1)) 4 (-1)) 5 (-1)) 6 (-1))))]) rfl ?_
  refine c_dup F dX5_init_46 rfl ?_
  refine c_bipush F (v := 7) dX5_init_47 (by decide) ?_
  refine c_iconst F (v := (-1)) dX5_init_49 (by decide) ?_
  refine c_iast F 2 7 (by decide) rfl (by unfold vp_in; decide) dX5_init_50 ?_
  refine c_ws (ws' := [(a0, .inr (5, [.ref q1, .null, .null])), (q1, .inl (gtc g 0, 8, .inl (fun _ => 0))), (q2, .inl (gtc g 0, 8, .inl (upd (upd (upd (upd (upd (upd (upd (upd (fun _ => 0) 0 (-1)) 1 (-1)) 2 (-1)) 3 (-1)) 4 (-1)) 5 (-1)) 6 (-1)) 7 (-1))))]) rfl ?_
  refine c_putF F ciX5 0 1 (tt := .array .int) rfl (by decide) rfl rfl rfl rfl rfl rfl (Nat.le_of_ble_eq_true rfl) m33 dX5_init_51 ?_
  refine c_ws (ws' := [(a0, .inr (5, [.ref q1, .ref q2, .null])), (q1, .inl (gtc g 0, 8, .inl (fun _ => 0))), (q2, .inl (gtc g 0, 8, .inl (upd (upd (upd (upd (upd (upd (upd (upd (fun _ => 0) 0 (-1)) 1 (-1)) 2 (-1)) 3 (-1)) 4 (-1)) 5 (-1)) 6 (-1)) 7 (-1))))]) rfl ?_
  refine c_aload F dX5_init_54 rfl 0 rfl ?_
  refine c_sipush F (v := 320) dX5_init_55 (by decide) ?_
  refine c_newa F 0 (ty := .int) (atype := .int) rfl (fun _ h => by cases h) rfl m42 (N := 320) (fun _ => rfl) (by decide) (by decide) (by decide) (by decide) (by decide) dX5_init_58 (fun q3 => ?_)
  refine c_ws (ws' := [(a0, .inr (5, [.ref q1, .ref q2, .null])), (q1, .inl (gtc g 0, 8, .inl (fun _ => 0))), (q2, .inl (gtc g 0, 8, .inl (upd (upd (upd (upd (upd (upd (upd (upd (fun _ => 0) 0 (-1)) 1 (-1)) 2 (-1)) 3 (-1)) 4 (-1)) 5 (-1)) 6 (-1)) 7 (-1)))), (q3, .inl (gtc g 0, 320, .inl (fun _ => 0)))]) rfl ?_
  refine c_putF F ciX5 0 2 (tt := .array .int) rfl (by decide) rfl rfl rfl rfl rfl rfl (Nat.le_of_ble_eq_true rfl) m34 dX5_init_60 ?_
  refine c_ws (ws' := [(a0, .inr (5, [.ref q1, .ref q2, .ref q3])), (q1, .inl (gtc g 0, 8, .inl (fun _ => 0))), (q2, .inl (gtc g 0, 8, .inl (upd (upd (upd (upd (upd (upd (upd (upd (fun _ => 0) 0 (-1)) 1 (-1)) 2 (-1)) 3 (-1)) 4 (-1)) 5 (-1)) 6 (-1)) 7 (-1)))), (q3, .inl (gtc g 0, 320, .inl (fun _ => 0)))]) rfl ?_
  exact c_ret F (fun i => [a0, q1, q2, q3].getD i 0) (by decide) (by decide) rfl rfl hA dX5_init_63
theorem dX6_init_0 : decode cX6_init 0 = .ok (.aload_n 0, 1) := by decide +kernel
theorem dX6_init_1 : decode cX6_init 1 = .ok (.invokespecial 1, 3) := by decide +kernel
theorem dX6_init_4 : decode cX6_init 4 = .ok (.aload_n 0, 1) := by decide +kernel
theorem dX6_init_5 : decode cX6_init 5 = .ok (.sipush 500, 3) := by decide +kernel
theorem dX6_init_8 : decode cX6_init 8 = .ok (.newarray .byte, 2) := by decide +kernel
theorem dX6_init_10 : decode cX6_init 10 = .ok (.putfield 9, 3) := by decide +kernel
theorem dX6_init_13 : decode cX6_init 13 = .ok (.return_, 1) := by decide +kernel
set_option maxRecDepth 100000 in
set_option maxHeartbeats 8000000 in
theorem cc_X6 (l : Launch) (g : GC) : Cc l yX6_init cX6_init { frames := 1, cells := 1, slots := 500, locals := 44 } g 6 fz6 lam6 hz6 1 500 := by
  refine Cc.of (by decide +kernel) rfl (fun z a0 sz A hzl hA F => ?_)
  subst hzl
  refine c_ws (ws' := [(a0, .inr (6, [.null, .int 0, .int 0, .int 0, .int 0]))]) rfl ?_
  refine c_aload F dX6_init_0 rfl 0 rfl ?_
  refine c_obj F m48 m24 m25 (by decide) (by decide) rfl dX6_init_1 ?_
  refine c_aload F dX6_init_4 rfl 0 rfl ?_
  refine c_sipush F (v := 500) dX6_init_5 (by decide) ?_
  refine c_newa F 1 (ty := .byte) (atype := .byte) rfl (fun _ h => by cases h) rfl m65 (N := 500) (fun _ => rfl) (by decide) (by decide) (by decide) (by decide) (by decide) dX6_init_8 (fun q1 => ?_)
  refine c_ws (ws' := [(a0, .inr (6, [.null, .int 0, .int 0, .int 0, .int 0])), (q1, .inl (gtc g 1, 500, .inl (fun _ => 0)))]) rfl ?_
  refine c_putF F ciX6 0 0 (tt := .array .byte) rfl (by decide) rfl rfl rfl rfl rfl rfl (Nat.le_of_ble_eq_true rfl) m49 dX6_init_10 ?_
  refine c_ws (ws' := [(a0, .inr (6, [.ref q1, .int 0, .int 0, .int 0, .int 0])), (q1, .inl (gtc g 1, 500, .inl (fun _ => 0)))]) rfl ?_
  exact c_ret F (fun i => [a0, q1].getD i 0) (by decide) (by decide) rfl rfl hA dX6_init_13
theorem dX4_init_0 : decode cX4_init 0 = .ok (.aload_n 0, 1) := by decide +kernel
theorem dX4_init_1 : decode cX4_init 1 = .ok (.invokespecial 3, 3) := by decide +kernel
theorem dX4_init_4 : decode cX4_init 4 = .ok (.aload_n 0, 1) := by decide +kernel
theorem dX4_init_5 : decode cX4_init 5 = .ok (.new 9, 3) := by decide +kernel
theorem dX4_init_8 : decode cX4_init 8 = .ok (.dup, 1) := by decide +kernel
theorem dX4_init_9 : decode cX4_init 9 = .ok (.invokespecial 11, 3) := by decide +kernel
theorem dX4_init_12 : decode cX4_init 12 = .ok (.putfield 12, 3) := by decide +kernel
theorem dX4_init_15 : decode cX4_init 15 = .ok (.return_, 1) := by decide +kernel
set_option maxRecDepth 100000 in
set_option maxHeartbeats 8000000 in
theorem cc_X4 (l : Launch) (g : GC) : Cc l yX4_init cX4_init { frames := 2, cells := 9, slots := 111, locals := 76 } g 4 fz4 lam4 hz4 9 111 := by
  refine Cc.of (by decide +kernel) rfl (fun z a0 sz A hzl hA F => ?_)
  subst hzl
  refine c_ws (ws' := [(a0, .inr (4, [.null, .int 0]))]) rfl ?_
  refine c_aload F dX4_init_0 rfl 0 rfl ?_
  refine c_obj F m71 m24 m25 (by decide) (by decide) rfl dX4_init_1 ?_
  refine c_aload F dX4_init_4 rfl 0 rfl ?_
  refine c_new F ciX2 (fs := fz2) m72 m73 m5 fz2_ok (by decide) (by decide) dX4_init_5 (fun q1 => ?_)
  refine c_ws (ws' := [(a0, .inr (4, [.null, .int 0])), (q1, .inr (2, [.int 0, .int 0, .int 0, .int 0, .int 0, .int 0, .int 0, .null, .null, .null, .null, .null, .null, .null, .null]))]) rfl ?_
  refine c_dup F dX4_init_8 rfl ?_
  refine c_call F (cc_X2 z.2.1 g) m75 m5 m76 (Or.inl (List.mem_of_getElem? (i := 8) rfl)) rfl ⟨by decide +kernel, by decide +kernel, by decide +kernel⟩ (by decide) (by decide) (by decide) (by decide) rfl (Nat.le_of_ble_eq_true rfl) dX4_init_9 (fun u2 e_u2 => ?_)
  refine c_ws (ws' := [(a0, .inr (4, [.null, .int 0])), ((u2 0), .inr (2, [.int 0, .int 0, .int 0, .int 0, .int 0, .int 0, .int 0, .ref (u2 1), .ref (u2 2), .ref (u2 3), .ref (u2 4), .ref (u2 5), .ref (u2 6), .ref (u2 7), .ref (u2 8)])), ((u2 1), .inl (gtc g 0, 12, .inl (fun _ => 0))), ((u2 2), .inl (gtc g 0, 12, .inl (fun _ => 0))), ((u2 3), .inl (gtc g 0, 6, .inl (fun _ => 0))), ((u2 4), .inl (gtc g 0, 6, .inl (fun _ => 0))), ((u2 5), .inl (gtc g 0, 6, .inl (fun _ => 0))), ((u2 6), .inl (gtc g 0, 6, .inl (fun _ => 0))), ((u2 7), .inl (gtc g 0, 24, .inl (fun _ => 0))), ((u2 8), .inl (gtc g 0, 24, .inl (fun _ => 0)))]) rfl ?_
  rw [← e_u2]
  refine c_putF F ciX4 0 0 (tt := .object "ArchTrades$Bridge") rfl (by decide) rfl rfl rfl rfl rfl rfl (Nat.le_of_ble_eq_true rfl) m152 dX4_init_12 ?_
  refine c_ws (ws' := [(a0, .inr (4, [.ref (u2 0), .int 0])), ((u2 0), .inr (2, [.int 0, .int 0, .int 0, .int 0, .int 0, .int 0, .int 0, .ref (u2 1), .ref (u2 2), .ref (u2 3), .ref (u2 4), .ref (u2 5), .ref (u2 6), .ref (u2 7), .ref (u2 8)])), ((u2 1), .inl (gtc g 0, 12, .inl (fun _ => 0))), ((u2 2), .inl (gtc g 0, 12, .inl (fun _ => 0))), ((u2 3), .inl (gtc g 0, 6, .inl (fun _ => 0))), ((u2 4), .inl (gtc g 0, 6, .inl (fun _ => 0))), ((u2 5), .inl (gtc g 0, 6, .inl (fun _ => 0))), ((u2 6), .inl (gtc g 0, 6, .inl (fun _ => 0))), ((u2 7), .inl (gtc g 0, 24, .inl (fun _ => 0))), ((u2 8), .inl (gtc g 0, 24, .inl (fun _ => 0)))]) rfl ?_
  exact c_ret F (fun i => [a0, (u2 0), (u2 1), (u2 2), (u2 3), (u2 4), (u2 5), (u2 6), (u2 7), (u2 8)].getD i 0) (by decide) (by decide) rfl rfl hA dX4_init_15
theorem dX8_init_0 : decode cX8_init 0 = .ok (.aload_n 0, 1) := by decide +kernel
theorem dX8_init_1 : decode cX8_init 1 = .ok (.invokespecial 1, 3) := by decide +kernel
theorem dX8_init_4 : decode cX8_init 4 = .ok (.aload_n 0, 1) := by decide +kernel
theorem dX8_init_5 : decode cX8_init 5 = .ok (.bipush 8, 2) := by decide +kernel
theorem dX8_init_7 : decode cX8_init 7 = .ok (.newarray .int, 2) := by decide +kernel
theorem dX8_init_9 : decode cX8_init 9 = .ok (.dup, 1) := by decide +kernel
theorem dX8_init_10 : decode cX8_init 10 = .ok (.iconst 0, 1) := by decide +kernel
theorem dX8_init_11 : decode cX8_init 11 = .ok (.iconst (-1), 1) := by decide +kernel
theorem dX8_init_12 : decode cX8_init 12 = .ok (.iastore, 1) := by decide +kernel
theorem dX8_init_13 : decode cX8_init 13 = .ok (.dup, 1) := by decide +kernel
theorem dX8_init_14 : decode cX8_init 14 = .ok (.iconst 1, 1) := by decide +kernel
theorem dX8_init_15 : decode cX8_init 15 = .ok (.iconst (-1), 1) := by decide +kernel
theorem dX8_init_16 : decode cX8_init 16 = .ok (.iastore, 1) := by decide +kernel
theorem dX8_init_17 : decode cX8_init 17 = .ok (.dup, 1) := by decide +kernel
theorem dX8_init_18 : decode cX8_init 18 = .ok (.iconst 2, 1) := by decide +kernel
theorem dX8_init_19 : decode cX8_init 19 = .ok (.iconst (-1), 1) := by decide +kernel
theorem dX8_init_20 : decode cX8_init 20 = .ok (.iastore, 1) := by decide +kernel
theorem dX8_init_21 : decode cX8_init 21 = .ok (.dup, 1) := by decide +kernel
theorem dX8_init_22 : decode cX8_init 22 = .ok (.iconst 3, 1) := by decide +kernel
theorem dX8_init_23 : decode cX8_init 23 = .ok (.iconst (-1), 1) := by decide +kernel
theorem dX8_init_24 : decode cX8_init 24 = .ok (.iastore, 1) := by decide +kernel
theorem dX8_init_25 : decode cX8_init 25 = .ok (.dup, 1) := by decide +kernel
theorem dX8_init_26 : decode cX8_init 26 = .ok (.iconst 4, 1) := by decide +kernel
theorem dX8_init_27 : decode cX8_init 27 = .ok (.iconst (-1), 1) := by decide +kernel
theorem dX8_init_28 : decode cX8_init 28 = .ok (.iastore, 1) := by decide +kernel
theorem dX8_init_29 : decode cX8_init 29 = .ok (.dup, 1) := by decide +kernel
theorem dX8_init_30 : decode cX8_init 30 = .ok (.iconst 5, 1) := by decide +kernel
theorem dX8_init_31 : decode cX8_init 31 = .ok (.iconst (-1), 1) := by decide +kernel
theorem dX8_init_32 : decode cX8_init 32 = .ok (.iastore, 1) := by decide +kernel
theorem dX8_init_33 : decode cX8_init 33 = .ok (.dup, 1) := by decide +kernel
theorem dX8_init_34 : decode cX8_init 34 = .ok (.bipush 6, 2) := by decide +kernel
theorem dX8_init_36 : decode cX8_init 36 = .ok (.iconst (-1), 1) := by decide +kernel
theorem dX8_init_37 : decode cX8_init 37 = .ok (.iastore, 1) := by decide +kernel
theorem dX8_init_38 : decode cX8_init 38 = .ok (.dup, 1) := by decide +kernel
theorem dX8_init_39 : decode cX8_init 39 = .ok (.bipush 7, 2) := by decide +kernel
theorem dX8_init_41 : decode cX8_init 41 = .ok (.iconst (-1), 1) := by decide +kernel
theorem dX8_init_42 : decode cX8_init 42 = .ok (.iastore, 1) := by decide +kernel
theorem dX8_init_43 : decode cX8_init 43 = .ok (.putfield 7, 3) := by decide +kernel
theorem dX8_init_46 : decode cX8_init 46 = .ok (.aload_n 0, 1) := by decide +kernel
theorem dX8_init_47 : decode cX8_init 47 = .ok (.bipush 8, 2) := by decide +kernel
theorem dX8_init_49 : decode cX8_init 49 = .ok (.newarray .int, 2) := by decide +kernel
theorem dX8_init_51 : decode cX8_init 51 = .ok (.putfield 13, 3) := by decide +kernel
theorem dX8_init_54 : decode cX8_init 54 = .ok (.aload_n 0, 1) := by decide +kernel
theorem dX8_init_55 : decode cX8_init 55 = .ok (.sipush 320, 3) := by decide +kernel
theorem dX8_init_58 : decode cX8_init 58 = .ok (.newarray .int, 2) := by decide +kernel
theorem dX8_init_60 : decode cX8_init 60 = .ok (.putfield 16, 3) := by decide +kernel
theorem dX8_init_63 : decode cX8_init 63 = .ok (.aload_n 0, 1) := by decide +kernel
theorem dX8_init_64 : decode cX8_init 64 = .ok (.bipush 100, 2) := by decide +kernel
theorem dX8_init_66 : decode cX8_init 66 = .ok (.newarray .int, 2) := by decide +kernel
theorem dX8_init_68 : decode cX8_init 68 = .ok (.putfield 19, 3) := by decide +kernel
theorem dX8_init_71 : decode cX8_init 71 = .ok (.aload_n 0, 1) := by decide +kernel
theorem dX8_init_72 : decode cX8_init 72 = .ok (.bipush 100, 2) := by decide +kernel
theorem dX8_init_74 : decode cX8_init 74 = .ok (.newarray .int, 2) := by decide +kernel
theorem dX8_init_76 : decode cX8_init 76 = .ok (.putfield 22, 3) := by decide +kernel
theorem dX8_init_79 : decode cX8_init 79 = .ok (.aload_n 0, 1) := by decide +kernel
theorem dX8_init_80 : decode cX8_init 80 = .ok (.sipush 2400, 3) := by decide +kernel
theorem dX8_init_83 : decode cX8_init 83 = .ok (.newarray .int, 2) := by decide +kernel
theorem dX8_init_85 : decode cX8_init 85 = .ok (.putfield 25, 3) := by decide +kernel
theorem dX8_init_88 : decode cX8_init 88 = .ok (.aload_n 0, 1) := by decide +kernel
theorem dX8_init_89 : decode cX8_init 89 = .ok (.sipush 500, 3) := by decide +kernel
theorem dX8_init_92 : decode cX8_init 92 = .ok (.newarray .int, 2) := by decide +kernel
theorem dX8_init_94 : decode cX8_init 94 = .ok (.putfield 28, 3) := by decide +kernel
theorem dX8_init_97 : decode cX8_init 97 = .ok (.aload_n 0, 1) := by decide +kernel
theorem dX8_init_98 : decode cX8_init 98 = .ok (.sipush 144, 3) := by decide +kernel
theorem dX8_init_101 : decode cX8_init 101 = .ok (.newarray .int, 2) := by decide +kernel
theorem dX8_init_103 : decode cX8_init 103 = .ok (.putfield 31, 3) := by decide +kernel
theorem dX8_init_106 : decode cX8_init 106 = .ok (.aload_n 0, 1) := by decide +kernel
theorem dX8_init_107 : decode cX8_init 107 = .ok (.sipush 144, 3) := by decide +kernel
theorem dX8_init_110 : decode cX8_init 110 = .ok (.newarray .boolean, 2) := by decide +kernel
theorem dX8_init_112 : decode cX8_init 112 = .ok (.putfield 34, 3) := by decide +kernel
theorem dX8_init_115 : decode cX8_init 115 = .ok (.aload_n 0, 1) := by decide +kernel
theorem dX8_init_116 : decode cX8_init 116 = .ok (.sipush 144, 3) := by decide +kernel
theorem dX8_init_119 : decode cX8_init 119 = .ok (.newarray .boolean, 2) := by decide +kernel
theorem dX8_init_121 : decode cX8_init 121 = .ok (.putfield 38, 3) := by decide +kernel
theorem dX8_init_124 : decode cX8_init 124 = .ok (.aload_n 0, 1) := by decide +kernel
theorem dX8_init_125 : decode cX8_init 125 = .ok (.sipush 144, 3) := by decide +kernel
theorem dX8_init_128 : decode cX8_init 128 = .ok (.newarray .int, 2) := by decide +kernel
theorem dX8_init_130 : decode cX8_init 130 = .ok (.putfield 41, 3) := by decide +kernel
theorem dX8_init_133 : decode cX8_init 133 = .ok (.aload_n 0, 1) := by decide +kernel
theorem dX8_init_134 : decode cX8_init 134 = .ok (.bipush 6, 2) := by decide +kernel
theorem dX8_init_136 : decode cX8_init 136 = .ok (.newarray .int, 2) := by decide +kernel
theorem dX8_init_138 : decode cX8_init 138 = .ok (.putfield 44, 3) := by decide +kernel
theorem dX8_init_141 : decode cX8_init 141 = .ok (.aload_n 0, 1) := by decide +kernel
theorem dX8_init_142 : decode cX8_init 142 = .ok (.bipush 6, 2) := by decide +kernel
theorem dX8_init_144 : decode cX8_init 144 = .ok (.newarray .int, 2) := by decide +kernel
theorem dX8_init_146 : decode cX8_init 146 = .ok (.putfield 47, 3) := by decide +kernel
theorem dX8_init_149 : decode cX8_init 149 = .ok (.aload_n 0, 1) := by decide +kernel
theorem dX8_init_150 : decode cX8_init 150 = .ok (.bipush 6, 2) := by decide +kernel
theorem dX8_init_152 : decode cX8_init 152 = .ok (.newarray .int, 2) := by decide +kernel
theorem dX8_init_154 : decode cX8_init 154 = .ok (.putfield 50, 3) := by decide +kernel
theorem dX8_init_157 : decode cX8_init 157 = .ok (.aload_n 0, 1) := by decide +kernel
theorem dX8_init_158 : decode cX8_init 158 = .ok (.bipush 6, 2) := by decide +kernel
theorem dX8_init_160 : decode cX8_init 160 = .ok (.newarray .int, 2) := by decide +kernel
theorem dX8_init_162 : decode cX8_init 162 = .ok (.putfield 53, 3) := by decide +kernel
theorem dX8_init_165 : decode cX8_init 165 = .ok (.aload_n 0, 1) := by decide +kernel
theorem dX8_init_166 : decode cX8_init 166 = .ok (.iconst 2, 1) := by decide +kernel
theorem dX8_init_167 : decode cX8_init 167 = .ok (.newarray .boolean, 2) := by decide +kernel
theorem dX8_init_169 : decode cX8_init 169 = .ok (.putfield 56, 3) := by decide +kernel
theorem dX8_init_172 : decode cX8_init 172 = .ok (.aload_n 0, 1) := by decide +kernel
theorem dX8_init_173 : decode cX8_init 173 = .ok (.sipush 200, 3) := by decide +kernel
theorem dX8_init_176 : decode cX8_init 176 = .ok (.newarray .int, 2) := by decide +kernel
theorem dX8_init_178 : decode cX8_init 178 = .ok (.putfield 59, 3) := by decide +kernel
theorem dX8_init_181 : decode cX8_init 181 = .ok (.aload_n 0, 1) := by decide +kernel
theorem dX8_init_182 : decode cX8_init 182 = .ok (.bipush 16, 2) := by decide +kernel
theorem dX8_init_184 : decode cX8_init 184 = .ok (.newarray .int, 2) := by decide +kernel
theorem dX8_init_186 : decode cX8_init 186 = .ok (.putfield 62, 3) := by decide +kernel
theorem dX8_init_189 : decode cX8_init 189 = .ok (.return_, 1) := by decide +kernel
set_option maxRecDepth 100000 in
set_option maxHeartbeats 8000000 in
theorem cc_X8 (l : Launch) (g : GC) : Cc l yX8_init cX8_init { frames := 1, cells := 18, slots := 4254, locals := 44 } g 8 fz8 lam8 hz8 18 4254 := by
  refine Cc.of (by decide +kernel) rfl (fun z a0 sz A hzl hA F => ?_)
  subst hzl
  refine c_ws (ws' := [(a0, .inr (8, [.int 0, .int 0, .null, .null, .null, .null, .null, .int 0, .null, .int 0, .null, .int 0, .int 0, .int 0, .int 0, .int 0, .int 0, .int 0, .int 0, .int 0, .null, .null, .null, .null, .null, .null, .int 0, .int 0, .null, .null, .null, .null, .null, .int 0]))]) rfl ?_
  refine c_aload F dX8_init_0 rfl 0 rfl ?_
  refine c_obj F m892 m24 m25 (by decide) (by decide) rfl dX8_init_1 ?_
  refine c_aload F dX8_init_4 rfl 0 rfl ?_
  refine c_bipush F (v := 8) dX8_init_5 (by decide) ?_
  refine c_newa F 0 (ty := .int) (atype := .int) rfl (fun _ h => by cases h) rfl m42 (N := 8) (fun _ => rfl) (by decide) (by decide) (by decide) (by decide) (by decide) dX8_init_7 (fun q1 => ?_)
  refine c_ws (ws' := [(a0, .inr (8, [.int 0, .int 0, .null, .null, .null, .null, .null, .int 0, .null, .int 0, .null, .int 0, .int 0, .int 0, .int 0, .int 0, .int 0, .int 0, .int 0, .int 0, .null, .null, .null, .null, .null, .null, .int 0, .int 0, .null, .null, .null, .null, .null, .int 0])), (q1, .inl (gtc g 0, 8, .inl (fun _ => 0)))]) rfl ?_
  refine c_dup F dX8_init_9 rfl ?_
  refine c_iconst F (v := 0) dX8_init_10 (by decide) ?_
  refine c_iconst F (v := (-1)) dX8_init_11 (by decide) ?_
  refine c_iast F 1 0 (by decide) rfl (by unfold vp_in; decide) dX8_init_12 ?_
  refine c_ws (ws' := [(a0, .inr (8, [.int 0, .int 0, .null, .null, .null, .null, .null, .int 0, .null, .int 0, .null, .int 0, .int 0, .int 0, .int 0, .int 0, .int 0, .int 0, .int 0, .int 0, .null, .null, .null, .null, .null, .null, .int 0, .int 0, .null, .null, .null, .null, .null, .int 0])), (q1, .inl (gtc g 0, 8, .inl (upd (fun _ => 0) 0 (-1))))]) rfl ?_
  refine c_dup F dX8_init_13 rfl ?_
  refine c_iconst F (v := 1) dX8_init_14 (by decide) ?_
  refine c_iconst F (v := (-1)) dX8_init_15 (by decide) ?_
  refine c_iast F 1 1 (by decide) rfl (by unfold vp_in; decide) dX8_init_16 ?_
  refine c_ws (ws' := [(a0, .inr (8, [.int 0, .int 0, .null, .null, .null, .null, .null, .int 0, .null, .int 0, .null, .int 0, .int 0, .int 0, .int 0, .int 0, .int 0, .int 0, .int 0, .int 0, .null, .null, .null, .null, .null, .null, .int 0, .int 0, .null, .null, .null, .null, .null, .int 0])), (q1, .inl (gtc g 0, 8, .inl (upd (upd (fun _ => 0) 0 (-1)) 1 (-1))))]) rfl ?_
  refine c_dup F dX8_init_17 rfl ?_
  refine c_iconst F (v := 2) dX8_init_18 (by decide) ?_
  refine c_iconst F (v := (-1)) dX8_init_19 (by decide) ?_
  refine c_iast F 1 2 (by decide) rfl (by unfold vp_in; decide) dX8_init_20 ?_
  refine c_ws (ws' := [(a0, .inr (8, [.int 0, .int 0, .null, .null, .null, .null, .null, .int 0, .null, .int 0, .null, .int 0, .int 0, .int 0, .int 0, .int 0, .int 0, .int 0, .int 0, .int 0, .null, .null, .null, .null, .null, .null, .int 0, .int 0, .null, .null, .null, .null, .null, .int 0])), (q1, .inl (gtc g 0, 8, .inl (upd (upd (upd (fun _ => 0) 0 (-1)) 1 (-1)) 2 (-1))))]) rfl ?_
  refine c_dup F dX8_init_21 rfl ?_
  refine c_iconst F (v := 3) dX8_init_22 (by decide) ?_
  refine c_iconst F (v := (-1)) dX8_init_23 (by decide) ?_
  refine c_iast F 1 3 (by decide) rfl (by unfold vp_in; decide) dX8_init_24 ?_
  refine c_ws (ws' := [(a0, .inr (8, [.int 0, .int 0, .null, .null, .null, .null, .null, .int 0, .null, .int 0, .null, .int 0, .int 0, .int 0, .int 0, .int 0, .int 0, .int 0, .int 0, .int 0, .null, .null, .null, .null, .null, .null, .int 0, .int 0, .null, .null, .null, .null, .null, .int 0])), (q1, .inl (gtc g 0, 8, .inl (upd (upd (upd (upd (fun _ => 0) 0 (-1)) 1 (-1)) 2 (-1)) 3 (-1))))]) rfl ?_
  refine c_dup F dX8_init_25 rfl ?_
  refine c_iconst F (v := 4) dX8_init_26 (by decide) ?_
  refine c_iconst F (v := (-1)) dX8_init_27 (by decide) ?_
  refine c_iast F 1 4 (by decide) rfl (by unfold vp_in; decide) dX8_init_28 ?_
  refine c_ws (ws' := [(a0, .inr (8, [.int 0, .int 0, .null, .null, .null, .null, .null, .int 0, .null, .int 0, .null, .int 0, .int 0, .int 0, .int 0, .int 0, .int 0, .int 0, .int 0, .int 0, .null, .null, .null, .null, .null, .null, .int 0, .int 0, .null, .null, .null, .null, .null, .int 0])), (q1, .inl (gtc g 0, 8, .inl (upd (upd (upd (upd (upd (fun _ => 0) 0 (-1)) 1 (-1)) 2 (-1)) 3 (-1)) 4 (-1))))]) rfl ?_
  refine c_dup F dX8_init_29 rfl ?_
  refine c_iconst F (v := 5) dX8_init_30 (by decide) ?_
  refine c_iconst F (v := (-1)) dX8_init_31 (by decide) ?_
  refine c_iast F 1 5 (by decide) rfl (by unfold vp_in; decide) dX8_init_32 ?_
  refine c_ws (ws' := [(a0, .inr (8, [.int 0, .int 0, .null, .null, .null, .null, .null, .int 0, .null, .int 0, .null, .int 0, .int 0, .int 0, .int 0, .int 0, .int 0, .int 0, .int 0, .int 0, .null, .null, .null, .null, .null, .null, .int 0, .int 0, .null, .null, .null, .null, .null, .int 0])), (q1, .inl (gtc g 0, 8, .inl (upd (upd (upd (upd (upd (upd (fun _ => 0) 0 (-1)) 1 (-1)) 2 (-1)) 3 (-1)) 4 (-1)) 5 (-1))))]) rfl ?_
  refine c_dup F dX8_init_33 rfl ?_
  refine c_bipush F (v := 6) dX8_init_34 (by decide) ?_
  refine c_iconst F (v := (-1)) dX8_init_36 (by decide) ?_
  refine c_iast F 1 6 (by decide) rfl (by unfold vp_in; decide) dX8_init_37 ?_
  refine c_ws (ws' := [(a0, .inr (8, [.int 0, .int 0, .null, .null, .null, .null, .null, .int 0, .null, .int 0, .null, .int 0, .int 0, .int 0, .int 0, .int 0, .int 0, .int 0, .int 0, .int 0, .null, .null, .null, .null, .null, .null, .int 0, .int 0, .null, .null, .null, .null, .null, .int 0])), (q1, .inl (gtc g 0, 8, .inl (upd (upd (upd (upd (upd (upd (upd (fun _ => 0) 0 (-1)) 1 (-1)) 2 (-1)) 3 (-1)) 4 (-1)) 5 (-1)) 6 (-1))))]) rfl ?_
  refine c_dup F dX8_init_38 rfl ?_
  refine c_bipush F (v := 7) dX8_init_39 (by decide) ?_
  refine c_iconst F (v := (-1)) dX8_init_41 (by decide) ?_
  refine c_iast F 1 7 (by decide) rfl (by unfold vp_in; decide) dX8_init_42 ?_
  refine c_ws (ws' := [(a0, .inr (8, [.int 0, .int 0, .null, .null, .null, .null, .null, .int 0, .null, .int 0, .null, .int 0, .int 0, .int 0, .int 0, .int 0, .int 0, .int 0, .int 0, .int 0, .null, .null, .null, .null, .null, .null, .int 0, .int 0, .null, .null, .null, .null, .null, .int 0])), (q1, .inl (gtc g 0, 8, .inl (upd (upd (upd (upd (upd (upd (upd (upd (fun _ => 0) 0 (-1)) 1 (-1)) 2 (-1)) 3 (-1)) 4 (-1)) 5 (-1)) 6 (-1)) 7 (-1))))]) rfl ?_
  refine c_putF F ciX8 0 2 (tt := .array .int) rfl (by decide) rfl rfl rfl rfl rfl rfl (Nat.le_of_ble_eq_true rfl) m895 dX8_init_43 ?_
  refine c_ws (ws' := [(a0, .inr (8, [.int 0, .int 0, .ref q1, .null, .null, .null, .null, .int 0, .null, .int 0, .null, .int 0, .int 0, .int 0, .int 0, .int 0, .int 0, .int 0, .int 0, .int 0, .null, .null, .null, .null, .null, .null, .int 0, .int 0, .null, .null, .null, .null, .null, .int 0])), (q1, .inl (gtc g 0, 8, .inl (upd (upd (upd (upd (upd (upd (upd (upd (fun _ => 0) 0 (-1)) 1 (-1)) 2 (-1)) 3 (-1)) 4 (-1)) 5 (-1)) 6 (-1)) 7 (-1))))]) rfl ?_
  refine c_aload F dX8_init_46 rfl 0 rfl ?_
  refine c_bipush F (v := 8) dX8_init_47 (by decide) ?_
  refine c_newa F 0 (ty := .int) (atype := .int) rfl (fun _ h => by cases h) rfl m42 (N := 8) (fun _ => rfl) (by decide) (by decide) (by decide) (by decide) (by decide) dX8_init_49 (fun q2 => ?_)
  refine c_ws (ws' := [(a0, .inr (8, [.int 0, .int 0, .ref q1, .null, .null, .null, .null, .int 0, .null, .int 0, .null, .int 0, .int 0, .int 0, .int 0, .int 0, .int 0, .int 0, .int 0, .int 0, .null, .null, .null, .null, .null, .null, .int 0, .int 0, .null, .null, .null, .null, .null, .int 0])), (q1, .inl (gtc g 0, 8, .inl (upd (upd (upd (upd (upd (upd (upd (upd (fun _ => 0) 0 (-1)) 1 (-1)) 2 (-1)) 3 (-1)) 4 (-1)) 5 (-1)) 6 (-1)) 7 (-1)))), (q2, .inl (gtc g 0, 8, .inl (fun _ => 0)))]) rfl ?_
  refine c_putF F ciX8 0 3 (tt := .array .int) rfl (by decide) rfl rfl rfl rfl rfl rfl (Nat.le_of_ble_eq_true rfl) m896 dX8_init_51 ?_
  refine c_ws (ws' := [(a0, .inr (8, [.int 0, .int 0, .ref q1, .ref q2, .null, .null, .null, .int 0, .null, .int 0, .null, .int 0, .int 0, .int 0, .int 0, .int 0, .int 0, .int 0, .int 0, .int 0, .null, .null, .null, .null, .null, .null, .int 0, .int 0, .null, .null, .null, .null, .null, .int 0])), (q1, .inl (gtc g 0, 8, .inl (upd (upd (upd (upd (upd (upd (upd (upd (fun _ => 0) 0 (-1)) 1 (-1)) 2 (-1)) 3 (-1)) 4 (-1)) 5 (-1)) 6 (-1)) 7 (-1)))), (q2, .inl (gtc g 0, 8, .inl (fun _ => 0)))]) rfl ?_
  refine c_aload F dX8_init_54 rfl 0 rfl ?_
  refine c_sipush F (v := 320) dX8_init_55 (by decide) ?_
  refine c_newa F 0 (ty := .int) (atype := .int) rfl (fun _ h => by cases h) rfl m42 (N := 320) (fun _ => rfl) (by decide) (by decide) (by decide) (by decide) (by decide) dX8_init_58 (fun q3 => ?_)
  refine c_ws (ws' := [(a0, .inr (8, [.int 0, .int 0, .ref q1, .ref q2, .null, .null, .null, .int 0, .null, .int 0, .null, .int 0, .int 0, .int 0, .int 0, .int 0, .int 0, .int 0, .int 0, .int 0, .null, .null, .null, .null, .null, .null, .int 0, .int 0, .null, .null, .null, .null, .null, .int 0])), (q1, .inl (gtc g 0, 8, .inl (upd (upd (upd (upd (upd (upd (upd (upd (fun _ => 0) 0 (-1)) 1 (-1)) 2 (-1)) 3 (-1)) 4 (-1)) 5 (-1)) 6 (-1)) 7 (-1)))), (q2, .inl (gtc g 0, 8, .inl (fun _ => 0))), (q3, .inl (gtc g 0, 320, .inl (fun _ => 0)))]) rfl ?_
  refine c_putF F ciX8 0 4 (tt := .array .int) rfl (by decide) rfl rfl rfl rfl rfl rfl (Nat.le_of_ble_eq_true rfl) m897 dX8_init_60 ?_
  refine c_ws (ws' := [(a0, .inr (8, [.int 0, .int 0, .ref q1, .ref q2, .ref q3, .null, .null, .int 0, .null, .int 0, .null, .int 0, .int 0, .int 0, .int 0, .int 0, .int 0, .int 0, .int 0, .int 0, .null, .null, .null, .null, .null, .null, .int 0, .int 0, .null, .null, .null, .null, .null, .int 0])), (q1, .inl (gtc g 0, 8, .inl (upd (upd (upd (upd (upd (upd (upd (upd (fun _ => 0) 0 (-1)) 1 (-1)) 2 (-1)) 3 (-1)) 4 (-1)) 5 (-1)) 6 (-1)) 7 (-1)))), (q2, .inl (gtc g 0, 8, .inl (fun _ => 0))), (q3, .inl (gtc g 0, 320, .inl (fun _ => 0)))]) rfl ?_
  refine c_aload F dX8_init_63 rfl 0 rfl ?_
  refine c_bipush F (v := 100) dX8_init_64 (by decide) ?_
  refine c_newa F 0 (ty := .int) (atype := .int) rfl (fun _ h => by cases h) rfl m42 (N := 100) (fun _ => rfl) (by decide) (by decide) (by decide) (by decide) (by decide) dX8_init_66 (fun q4 => ?_)
  refine c_ws (ws' := [(a0, .inr (8, [.int 0, .int 0, .ref q1, .ref q2, .ref q3, .null, .null, .int 0, .null, .int 0, .null, .int 0, .int 0, .int 0, .int 0, .int 0, .int 0, .int 0, .int 0, .int 0, .null, .null, .null, .null, .null, .null, .int 0, .int 0, .null, .null, .null, .null, .null, .int 0])), (q1, .inl (gtc g 0, 8, .inl (upd (upd (upd (upd (upd (upd (upd (upd (fun _ => 0) 0 (-1)) 1 (-1)) 2 (-1)) 3 (-1)) 4 (-1)) 5 (-1)) 6 (-1)) 7 (-1)))), (q2, .inl (gtc g 0, 8, .inl (fun _ => 0))), (q3, .inl (gtc g 0, 320, .inl (fun _ => 0))), (q4, .inl (gtc g 0, 100, .inl (fun _ => 0)))]) rfl ?_
  refine c_putF F ciX8 0 5 (tt := .array .int) rfl (by decide) rfl rfl rfl rfl rfl rfl (Nat.le_of_ble_eq_true rfl) m898 dX8_init_68 ?_
  refine c_ws (ws' := [(a0, .inr (8, [.int 0, .int 0, .ref q1, .ref q2, .ref q3, .ref q4, .null, .int 0, .null, .int 0, .null, .int 0, .int 0, .int 0, .int 0, .int 0, .int 0, .int 0, .int 0, .int 0, .null, .null, .null, .null, .null, .null, .int 0, .int 0, .null, .null, .null, .null, .null, .int 0])), (q1, .inl (gtc g 0, 8, .inl (upd (upd (upd (upd (upd (upd (upd (upd (fun _ => 0) 0 (-1)) 1 (-1)) 2 (-1)) 3 (-1)) 4 (-1)) 5 (-1)) 6 (-1)) 7 (-1)))), (q2, .inl (gtc g 0, 8, .inl (fun _ => 0))), (q3, .inl (gtc g 0, 320, .inl (fun _ => 0))), (q4, .inl (gtc g 0, 100, .inl (fun _ => 0)))]) rfl ?_
  refine c_aload F dX8_init_71 rfl 0 rfl ?_
  refine c_bipush F (v := 100) dX8_init_72 (by decide) ?_
  refine c_newa F 0 (ty := .int) (atype := .int) rfl (fun _ h => by cases h) rfl m42 (N := 100) (fun _ => rfl) (by decide) (by decide) (by decide) (by decide) (by decide) dX8_init_74 (fun q5 => ?_)
  refine c_ws (ws' := [(a0, .inr (8, [.int 0, .int 0, .ref q1, .ref q2, .ref q3, .ref q4, .null, .int 0, .null, .int 0, .null, .int 0, .int 0, .int 0, .int 0, .int 0, .int 0, .int 0, .int 0, .int 0, .null, .null, .null, .null, .null, .null, .int 0, .int 0, .null, .null, .null, .null, .null, .int 0])), (q1, .inl (gtc g 0, 8, .inl (upd (upd (upd (upd (upd (upd (upd (upd (fun _ => 0) 0 (-1)) 1 (-1)) 2 (-1)) 3 (-1)) 4 (-1)) 5 (-1)) 6 (-1)) 7 (-1)))), (q2, .inl (gtc g 0, 8, .inl (fun _ => 0))), (q3, .inl (gtc g 0, 320, .inl (fun _ => 0))), (q4, .inl (gtc g 0, 100, .inl (fun _ => 0))), (q5, .inl (gtc g 0, 100, .inl (fun _ => 0)))]) rfl ?_
  refine c_putF F ciX8 0 6 (tt := .array .int) rfl (by decide) rfl rfl rfl rfl rfl rfl (Nat.le_of_ble_eq_true rfl) m899 dX8_init_76 ?_
  refine c_ws (ws' := [(a0, .inr (8, [.int 0, .int 0, .ref q1, .ref q2, .ref q3, .ref q4, .ref q5, .int 0, .null, .int 0, .null, .int 0, .int 0, .int 0, .int 0, .int 0, .int 0, .int 0, .int 0, .int 0, .null, .null, .null, .null, .null, .null, .int 0, .int 0, .null, .null, .null, .null, .null, .int 0])), (q1, .inl (gtc g 0, 8, .inl (upd (upd (upd (upd (upd (upd (upd (upd (fun _ => 0) 0 (-1)) 1 (-1)) 2 (-1)) 3 (-1)) 4 (-1)) 5 (-1)) 6 (-1)) 7 (-1)))), (q2, .inl (gtc g 0, 8, .inl (fun _ => 0))), (q3, .inl (gtc g 0, 320, .inl (fun _ => 0))), (q4, .inl (gtc g 0, 100, .inl (fun _ => 0))), (q5, .inl (gtc g 0, 100, .inl (fun _ => 0)))]) rfl ?_
  refine c_aload F dX8_init_79 rfl 0 rfl ?_
  refine c_sipush F (v := 2400) dX8_init_80 (by decide) ?_
  refine c_newa F 0 (ty := .int) (atype := .int) rfl (fun _ h => by cases h) rfl m42 (N := 2400) (fun _ => rfl) (by decide) (by decide) (by decide) (by decide) (by decide) dX8_init_83 (fun q6 => ?_)
  refine c_ws (ws' := [(a0, .inr (8, [.int 0, .int 0, .ref q1, .ref q2, .ref q3, .ref q4, .ref q5, .int 0, .null, .int 0, .null, .int 0, .int 0, .int 0, .int 0, .int 0, .int 0, .int 0, .int 0, .int 0, .null, .null, .null, .null, .null, .null, .int 0, .int 0, .null, .null, .null, .null, .null, .int 0])), (q1, .inl (gtc g 0, 8, .inl (upd (upd (upd (upd (upd (upd (upd (upd (fun _ => 0) 0 (-1)) 1 (-1)) 2 (-1)) 3 (-1)) 4 (-1)) 5 (-1)) 6 (-1)) 7 (-1)))), (q2, .inl (gtc g 0, 8, .inl (fun _ => 0))), (q3, .inl (gtc g 0, 320, .inl (fun _ => 0))), (q4, .inl (gtc g 0, 100, .inl (fun _ => 0))), (q5, .inl (gtc g 0, 100, .inl (fun _ => 0))), (q6, .inl (gtc g 0, 2400, .inl (fun _ => 0)))]) rfl ?_
  refine c_putF F ciX8 0 8 (tt := .array .int) rfl (by decide) rfl rfl rfl rfl rfl rfl (Nat.le_of_ble_eq_true rfl) m901 dX8_init_85 ?_
  refine c_ws (ws' := [(a0, .inr (8, [.int 0, .int 0, .ref q1, .ref q2, .ref q3, .ref q4, .ref q5, .int 0, .ref q6, .int 0, .null, .int 0, .int 0, .int 0, .int 0, .int 0, .int 0, .int 0, .int 0, .int 0, .null, .null, .null, .null, .null, .null, .int 0, .int 0, .null, .null, .null, .null, .null, .int 0])), (q1, .inl (gtc g 0, 8, .inl (upd (upd (upd (upd (upd (upd (upd (upd (fun _ => 0) 0 (-1)) 1 (-1)) 2 (-1)) 3 (-1)) 4 (-1)) 5 (-1)) 6 (-1)) 7 (-1)))), (q2, .inl (gtc g 0, 8, .inl (fun _ => 0))), (q3, .inl (gtc g 0, 320, .inl (fun _ => 0))), (q4, .inl (gtc g 0, 100, .inl (fun _ => 0))), (q5, .inl (gtc g 0, 100, .inl (fun _ => 0))), (q6, .inl (gtc g 0, 2400, .inl (fun _ => 0)))]) rfl ?_
  refine c_aload F dX8_init_88 rfl 0 rfl ?_
  refine c_sipush F (v := 500) dX8_init_89 (by decide) ?_
  refine c_newa F 0 (ty := .int) (atype := .int) rfl (fun _ h => by cases h) rfl m42 (N := 500) (fun _ => rfl) (by decide) (by decide) (by decide) (by decide) (by decide) dX8_init_92 (fun q7 => ?_)
  refine c_ws (ws' := [(a0, .inr (8, [.int 0, .int 0, .ref q1, .ref q2, .ref q3, .ref q4, .ref q5, .int 0, .ref q6, .int 0, .null, .int 0, .int 0, .int 0, .int 0, .int 0, .int 0, .int 0, .int 0, .int 0, .null, .null, .null, .null, .null, .null, .int 0, .int 0, .null, .null, .null, .null, .null, .int 0])), (q1, .inl (gtc g 0, 8, .inl (upd (upd (upd (upd (upd (upd (upd (upd (fun _ => 0) 0 (-1)) 1 (-1)) 2 (-1)) 3 (-1)) 4 (-1)) 5 (-1)) 6 (-1)) 7 (-1)))), (q2, .inl (gtc g 0, 8, .inl (fun _ => 0))), (q3, .inl (gtc g 0, 320, .inl (fun _ => 0))), (q4, .inl (gtc g 0, 100, .inl (fun _ => 0))), (q5, .inl (gtc g 0, 100, .inl (fun _ => 0))), (q6, .inl (gtc g 0, 2400, .inl (fun _ => 0))), (q7, .inl (gtc g 0, 500, .inl (fun _ => 0)))]) rfl ?_
  refine c_putF F ciX8 0 10 (tt := .array .int) rfl (by decide) rfl rfl rfl rfl rfl rfl (Nat.le_of_ble_eq_true rfl) m903 dX8_init_94 ?_
  refine c_ws (ws' := [(a0, .inr (8, [.int 0, .int 0, .ref q1, .ref q2, .ref q3, .ref q4, .ref q5, .int 0, .ref q6, .int 0, .ref q7, .int 0, .int 0, .int 0, .int 0, .int 0, .int 0, .int 0, .int 0, .int 0, .null, .null, .null, .null, .null, .null, .int 0, .int 0, .null, .null, .null, .null, .null, .int 0])), (q1, .inl (gtc g 0, 8, .inl (upd (upd (upd (upd (upd (upd (upd (upd (fun _ => 0) 0 (-1)) 1 (-1)) 2 (-1)) 3 (-1)) 4 (-1)) 5 (-1)) 6 (-1)) 7 (-1)))), (q2, .inl (gtc g 0, 8, .inl (fun _ => 0))), (q3, .inl (gtc g 0, 320, .inl (fun _ => 0))), (q4, .inl (gtc g 0, 100, .inl (fun _ => 0))), (q5, .inl (gtc g 0, 100, .inl (fun _ => 0))), (q6, .inl (gtc g 0, 2400, .inl (fun _ => 0))), (q7, .inl (gtc g 0, 500, .inl (fun _ => 0)))]) rfl ?_
  refine c_aload F dX8_init_97 rfl 0 rfl ?_
  refine c_sipush F (v := 144) dX8_init_98 (by decide) ?_
  refine c_newa F 0 (ty := .int) (atype := .int) rfl (fun _ h => by cases h) rfl m42 (N := 144) (fun _ => rfl) (by decide) (by decide) (by decide) (by decide) (by decide) dX8_init_101 (fun q8 => ?_)
  refine c_ws (ws' := [(a0, .inr (8, [.int 0, .int 0, .ref q1, .ref q2, .ref q3, .ref q4, .ref q5, .int 0, .ref q6, .int 0, .ref q7, .int 0, .int 0, .int 0, .int 0, .int 0, .int 0, .int 0, .int 0, .int 0, .null, .null, .null, .null, .null, .null, .int 0, .int 0, .null, .null, .null, .null, .null, .int 0])), (q1, .inl (gtc g 0, 8, .inl (upd (upd (upd (upd (upd (upd (upd (upd (fun _ => 0) 0 (-1)) 1 (-1)) 2 (-1)) 3 (-1)) 4 (-1)) 5 (-1)) 6 (-1)) 7 (-1)))), (q2, .inl (gtc g 0, 8, .inl (fun _ => 0))), (q3, .inl (gtc g 0, 320, .inl (fun _ => 0))), (q4, .inl (gtc g 0, 100, .inl (fun _ => 0))), (q5, .inl (gtc g 0, 100, .inl (fun _ => 0))), (q6, .inl (gtc g 0, 2400, .inl (fun _ => 0))), (q7, .inl (gtc g 0, 500, .inl (fun _ => 0))), (q8, .inl (gtc g 0, 144, .inl (fun _ => 0)))]) rfl ?_
  refine c_putF F ciX8 0 20 (tt := .array .int) rfl (by decide) rfl rfl rfl rfl rfl rfl (Nat.le_of_ble_eq_true rfl) m913 dX8_init_103 ?_
  refine c_ws (ws' := [(a0, .inr (8, [.int 0, .int 0, .ref q1, .ref q2, .ref q3, .ref q4, .ref q5, .int 0, .ref q6, .int 0, .ref q7, .int 0, .int 0, .int 0, .int 0, .int 0, .int 0, .int 0, .int 0, .int 0, .ref q8, .null, .null, .null, .null, .null, .int 0, .int 0, .null, .null, .null, .null, .null, .int 0])), (q1, .inl (gtc g 0, 8, .inl (upd (upd (upd (upd (upd (upd (upd (upd (fun _ => 0) 0 (-1)) 1 (-1)) 2 (-1)) 3 (-1)) 4 (-1)) 5 (-1)) 6 (-1)) 7 (-1)))), (q2, .inl (gtc g 0, 8, .inl (fun _ => 0))), (q3, .inl (gtc g 0, 320, .inl (fun _ => 0))), (q4, .inl (gtc g 0, 100, .inl (fun _ => 0))), (q5, .inl (gtc g 0, 100, .inl (fun _ => 0))), (q6, .inl (gtc g 0, 2400, .inl (fun _ => 0))), (q7, .inl (gtc g 0, 500, .inl (fun _ => 0))), (q8, .inl (gtc g 0, 144, .inl (fun _ => 0)))]) rfl ?_
  refine c_aload F dX8_init_106 rfl 0 rfl ?_
  refine c_sipush F (v := 144) dX8_init_107 (by decide) ?_
  refine c_newa F 2 (ty := .boolean) (atype := .boolean) rfl (fun _ h => by cases h) rfl m996 (N := 144) (fun _ => rfl) (by decide) (by decide) (by decide) (by decide) (by decide) dX8_init_110 (fun q9 => ?_)
  refine c_ws (ws' := [(a0, .inr (8, [.int 0, .int 0, .ref q1, .ref q2, .ref q3, .ref q4, .ref q5, .int 0, .ref q6, .int 0, .ref q7, .int 0, .int 0, .int 0, .int 0, .int 0, .int 0, .int 0, .int 0, .int 0, .ref q8, .null, .null, .null, .null, .null, .int 0, .int 0, .null, .null, .null, .null, .null, .int 0])), (q1, .inl (gtc g 0, 8, .inl (upd (upd (upd (upd (upd (upd (upd (upd (fun _ => 0) 0 (-1)) 1 (-1)) 2 (-1)) 3 (-1)) 4 (-1)) 5 (-1)) 6 (-1)) 7 (-1)))), (q2, .inl (gtc g 0, 8, .inl (fun _ => 0))), (q3, .inl (gtc g 0, 320, .inl (fun _ => 0))), (q4, .inl (gtc g 0, 100, .inl (fun _ => 0))), (q5, .inl (gtc g 0, 100, .inl (fun _ => 0))), (q6, .inl (gtc g 0, 2400, .inl (fun _ => 0))), (q7, .inl (gtc g 0, 500, .inl (fun _ => 0))), (q8, .inl (gtc g 0, 144, .inl (fun _ => 0))), (q9, .inl (gtc g 2, 144, .inl (fun _ => 0)))]) rfl ?_
  refine c_putF F ciX8 0 21 (tt := .array .boolean) rfl (by decide) rfl rfl rfl rfl rfl rfl (Nat.le_of_ble_eq_true rfl) m914 dX8_init_112 ?_
  refine c_ws (ws' := [(a0, .inr (8, [.int 0, .int 0, .ref q1, .ref q2, .ref q3, .ref q4, .ref q5, .int 0, .ref q6, .int 0, .ref q7, .int 0, .int 0, .int 0, .int 0, .int 0, .int 0, .int 0, .int 0, .int 0, .ref q8, .ref q9, .null, .null, .null, .null, .int 0, .int 0, .null, .null, .null, .null, .null, .int 0])), (q1, .inl (gtc g 0, 8, .inl (upd (upd (upd (upd (upd (upd (upd (upd (fun _ => 0) 0 (-1)) 1 (-1)) 2 (-1)) 3 (-1)) 4 (-1)) 5 (-1)) 6 (-1)) 7 (-1)))), (q2, .inl (gtc g 0, 8, .inl (fun _ => 0))), (q3, .inl (gtc g 0, 320, .inl (fun _ => 0))), (q4, .inl (gtc g 0, 100, .inl (fun _ => 0))), (q5, .inl (gtc g 0, 100, .inl (fun _ => 0))), (q6, .inl (gtc g 0, 2400, .inl (fun _ => 0))), (q7, .inl (gtc g 0, 500, .inl (fun _ => 0))), (q8, .inl (gtc g 0, 144, .inl (fun _ => 0))), (q9, .inl (gtc g 2, 144, .inl (fun _ => 0)))]) rfl ?_
  refine c_aload F dX8_init_115 rfl 0 rfl ?_
  refine c_sipush F (v := 144) dX8_init_116 (by decide) ?_
  refine c_newa F 2 (ty := .boolean) (atype := .boolean) rfl (fun _ h => by cases h) rfl m996 (N := 144) (fun _ => rfl) (by decide) (by decide) (by decide) (by decide) (by decide) dX8_init_119 (fun q10 => ?_)
  refine c_ws (ws' := [(a0, .inr (8, [.int 0, .int 0, .ref q1, .ref q2, .ref q3, .ref q4, .ref q5, .int 0, .ref q6, .int 0, .ref q7, .int 0, .int 0, .int 0, .int 0, .int 0, .int 0, .int 0, .int 0, .int 0, .ref q8, .ref q9, .null, .null, .null, .null, .int 0, .int 0, .null, .null, .null, .null, .null, .int 0])), (q1, .inl (gtc g 0, 8, .inl (upd (upd (upd (upd (upd (upd (upd (upd (fun _ => 0) 0 (-1)) 1 (-1)) 2 (-1)) 3 (-1)) 4 (-1)) 5 (-1)) 6 (-1)) 7 (-1)))), (q2, .inl (gtc g 0, 8, .inl (fun _ => 0))), (q3, .inl (gtc g 0, 320, .inl (fun _ => 0))), (q4, .inl (gtc g 0, 100, .inl (fun _ => 0))), (q5, .inl (gtc g 0, 100, .inl (fun _ => 0))), (q6, .inl (gtc g 0, 2400, .inl (fun _ => 0))), (q7, .inl (gtc g 0, 500, .inl (fun _ => 0))), (q8, .inl (gtc g 0, 144, .inl (fun _ => 0))), (q9, .inl (gtc g 2, 144, .inl (fun _ => 0))), (q10, .inl (gtc g 2, 144, .inl (fun _ => 0)))]) rfl ?_
  refine c_putF F ciX8 0 22 (tt := .array .boolean) rfl (by decide) rfl rfl rfl rfl rfl rfl (Nat.le_of_ble_eq_true rfl) m915 dX8_init_121 ?_
  refine c_ws (ws' := [(a0, .inr (8, [.int 0, .int 0, .ref q1, .ref q2, .ref q3, .ref q4, .ref q5, .int 0, .ref q6, .int 0, .ref q7, .int 0, .int 0, .int 0, .int 0, .int 0, .int 0, .int 0, .int 0, .int 0, .ref q8, .ref q9, .ref q10, .null, .null, .null, .int 0, .int 0, .null, .null, .null, .null, .null, .int 0])), (q1, .inl (gtc g 0, 8, .inl (upd (upd (upd (upd (upd (upd (upd (upd (fun _ => 0) 0 (-1)) 1 (-1)) 2 (-1)) 3 (-1)) 4 (-1)) 5 (-1)) 6 (-1)) 7 (-1)))), (q2, .inl (gtc g 0, 8, .inl (fun _ => 0))), (q3, .inl (gtc g 0, 320, .inl (fun _ => 0))), (q4, .inl (gtc g 0, 100, .inl (fun _ => 0))), (q5, .inl (gtc g 0, 100, .inl (fun _ => 0))), (q6, .inl (gtc g 0, 2400, .inl (fun _ => 0))), (q7, .inl (gtc g 0, 500, .inl (fun _ => 0))), (q8, .inl (gtc g 0, 144, .inl (fun _ => 0))), (q9, .inl (gtc g 2, 144, .inl (fun _ => 0))), (q10, .inl (gtc g 2, 144, .inl (fun _ => 0)))]) rfl ?_
  refine c_aload F dX8_init_124 rfl 0 rfl ?_
  refine c_sipush F (v := 144) dX8_init_125 (by decide) ?_
  refine c_newa F 0 (ty := .int) (atype := .int) rfl (fun _ h => by cases h) rfl m42 (N := 144) (fun _ => rfl) (by decide) (by decide) (by decide) (by decide) (by decide) dX8_init_128 (fun q11 => ?_)
  refine c_ws (ws' := [(a0, .inr (8, [.int 0, .int 0, .ref q1, .ref q2, .ref q3, .ref q4, .ref q5, .int 0, .ref q6, .int 0, .ref q7, .int 0, .int 0, .int 0, .int 0, .int 0, .int 0, .int 0, .int 0, .int 0, .ref q8, .ref q9, .ref q10, .null, .null, .null, .int 0, .int 0, .null, .null, .null, .null, .null, .int 0])), (q1, .inl (gtc g 0, 8, .inl (upd (upd (upd (upd (upd (upd (upd (upd (fun _ => 0) 0 (-1)) 1 (-1)) 2 (-1)) 3 (-1)) 4 (-1)) 5 (-1)) 6 (-1)) 7 (-1)))), (q2, .inl (gtc g 0, 8, .inl (fun _ => 0))), (q3, .inl (gtc g 0, 320, .inl (fun _ => 0))), (q4, .inl (gtc g 0, 100, .inl (fun _ => 0))), (q5, .inl (gtc g 0, 100, .inl (fun _ => 0))), (q6, .inl (gtc g 0, 2400, .inl (fun _ => 0))), (q7, .inl (gtc g 0, 500, .inl (fun _ => 0))), (q8, .inl (gtc g 0, 144, .inl (fun _ => 0))), (q9, .inl (gtc g 2, 144, .inl (fun _ => 0))), (q10, .inl (gtc g 2, 144, .inl (fun _ => 0))), (q11, .inl (gtc g 0, 144, .inl (fun _ => 0)))]) rfl ?_
  refine c_putF F ciX8 0 23 (tt := .array .int) rfl (by decide) rfl rfl rfl rfl rfl rfl (Nat.le_of_ble_eq_true rfl) m916 dX8_init_130 ?_
  refine c_ws (ws' := [(a0, .inr (8, [.int 0, .int 0, .ref q1, .ref q2, .ref q3, .ref q4, .ref q5, .int 0, .ref q6, .int 0, .ref q7, .int 0, .int 0, .int 0, .int 0, .int 0, .int 0, .int 0, .int 0, .int 0, .ref q8, .ref q9, .ref q10, .ref q11, .null, .null, .int 0, .int 0, .null, .null, .null, .null, .null, .int 0])), (q1, .inl (gtc g 0, 8, .inl (upd (upd (upd (upd (upd (upd (upd (upd (fun _ => 0) 0 (-1)) 1 (-1)) 2 (-1)) 3 (-1)) 4 (-1)) 5 (-1)) 6 (-1)) 7 (-1)))), (q2, .inl (gtc g 0, 8, .inl (fun _ => 0))), (q3, .inl (gtc g 0, 320, .inl (fun _ => 0))), (q4, .inl (gtc g 0, 100, .inl (fun _ => 0))), (q5, .inl (gtc g 0, 100, .inl (fun _ => 0))), (q6, .inl (gtc g 0, 2400, .inl (fun _ => 0))), (q7, .inl (gtc g 0, 500, .inl (fun _ => 0))), (q8, .inl (gtc g 0, 144, .inl (fun _ => 0))), (q9, .inl (gtc g 2, 144, .inl (fun _ => 0))), (q10, .inl (gtc g 2, 144, .inl (fun _ => 0))), (q11, .inl (gtc g 0, 144, .inl (fun _ => 0)))]) rfl ?_
  refine c_aload F dX8_init_133 rfl 0 rfl ?_
  refine c_bipush F (v := 6) dX8_init_134 (by decide) ?_
  refine c_newa F 0 (ty := .int) (atype := .int) rfl (fun _ h => by cases h) rfl m42 (N := 6) (fun _ => rfl) (by decide) (by decide) (by decide) (by decide) (by decide) dX8_init_136 (fun q12 => ?_)
  refine c_ws (ws' := [(a0, .inr (8, [.int 0, .int 0, .ref q1, .ref q2, .ref q3, .ref q4, .ref q5, .int 0, .ref q6, .int 0, .ref q7, .int 0, .int 0, .int 0, .int 0, .int 0, .int 0, .int 0, .int 0, .int 0, .ref q8, .ref q9, .ref q10, .ref q11, .null, .null, .int 0, .int 0, .null, .null, .null, .null, .null, .int 0])), (q1, .inl (gtc g 0, 8, .inl (upd (upd (upd (upd (upd (upd (upd (upd (fun _ => 0) 0 (-1)) 1 (-1)) 2 (-1)) 3 (-1)) 4 (-1)) 5 (-1)) 6 (-1)) 7 (-1)))), (q2, .inl (gtc g 0, 8, .inl (fun _ => 0))), (q3, .inl (gtc g 0, 320, .inl (fun _ => 0))), (q4, .inl (gtc g 0, 100, .inl (fun _ => 0))), (q5, .inl (gtc g 0, 100, .inl (fun _ => 0))), (q6, .inl (gtc g 0, 2400, .inl (fun _ => 0))), (q7, .inl (gtc g 0, 500, .inl (fun _ => 0))), (q8, .inl (gtc g 0, 144, .inl (fun _ => 0))), (q9, .inl (gtc g 2, 144, .inl (fun _ => 0))), (q10, .inl (gtc g 2, 144, .inl (fun _ => 0))), (q11, .inl (gtc g 0, 144, .inl (fun _ => 0))), (q12, .inl (gtc g 0, 6, .inl (fun _ => 0)))]) rfl ?_
  refine c_putF F ciX8 0 24 (tt := .array .int) rfl (by decide) rfl rfl rfl rfl rfl rfl (Nat.le_of_ble_eq_true rfl) m917 dX8_init_138 ?_
  refine c_ws (ws' := [(a0, .inr (8, [.int 0, .int 0, .ref q1, .ref q2, .ref q3, .ref q4, .ref q5, .int 0, .ref q6, .int 0, .ref q7, .int 0, .int 0, .int 0, .int 0, .int 0, .int 0, .int 0, .int 0, .int 0, .ref q8, .ref q9, .ref q10, .ref q11, .ref q12, .null, .int 0, .int 0, .null, .null, .null, .null, .null, .int 0])), (q1, .inl (gtc g 0, 8, .inl (upd (upd (upd (upd (upd (upd (upd (upd (fun _ => 0) 0 (-1)) 1 (-1)) 2 (-1)) 3 (-1)) 4 (-1)) 5 (-1)) 6 (-1)) 7 (-1)))), (q2, .inl (gtc g 0, 8, .inl (fun _ => 0))), (q3, .inl (gtc g 0, 320, .inl (fun _ => 0))), (q4, .inl (gtc g 0, 100, .inl (fun _ => 0))), (q5, .inl (gtc g 0, 100, .inl (fun _ => 0))), (q6, .inl (gtc g 0, 2400, .inl (fun _ => 0))), (q7, .inl (gtc g 0, 500, .inl (fun _ => 0))), (q8, .inl (gtc g 0, 144, .inl (fun _ => 0))), (q9, .inl (gtc g 2, 144, .inl (fun _ => 0))), (q10, .inl (gtc g 2, 144, .inl (fun _ => 0))), (q11, .inl (gtc g 0, 144, .inl (fun _ => 0))), (q12, .inl (gtc g 0, 6, .inl (fun _ => 0)))]) rfl ?_
  refine c_aload F dX8_init_141 rfl 0 rfl ?_
  refine c_bipush F (v := 6) dX8_init_142 (by decide) ?_
  refine c_newa F 0 (ty := .int) (atype := .int) rfl (fun _ h => by cases h) rfl m42 (N := 6) (fun _ => rfl) (by decide) (by decide) (by decide) (by decide) (by decide) dX8_init_144 (fun q13 => ?_)
  refine c_ws (ws' := [(a0, .inr (8, [.int 0, .int 0, .ref q1, .ref q2, .ref q3, .ref q4, .ref q5, .int 0, .ref q6, .int 0, .ref q7, .int 0, .int 0, .int 0, .int 0, .int 0, .int 0, .int 0, .int 0, .int 0, .ref q8, .ref q9, .ref q10, .ref q11, .ref q12, .null, .int 0, .int 0, .null, .null, .null, .null, .null, .int 0])), (q1, .inl (gtc g 0, 8, .inl (upd (upd (upd (upd (upd (upd (upd (upd (fun _ => 0) 0 (-1)) 1 (-1)) 2 (-1)) 3 (-1)) 4 (-1)) 5 (-1)) 6 (-1)) 7 (-1)))), (q2, .inl (gtc g 0, 8, .inl (fun _ => 0))), (q3, .inl (gtc g 0, 320, .inl (fun _ => 0))), (q4, .inl (gtc g 0, 100, .inl (fun _ => 0))), (q5, .inl (gtc g 0, 100, .inl (fun _ => 0))), (q6, .inl (gtc g 0, 2400, .inl (fun _ => 0))), (q7, .inl (gtc g 0, 500, .inl (fun _ => 0))), (q8, .inl (gtc g 0, 144, .inl (fun _ => 0))), (q9, .inl (gtc g 2, 144, .inl (fun _ => 0))), (q10, .inl (gtc g 2, 144, .inl (fun _ => 0))), (q11, .inl (gtc g 0, 144, .inl (fun _ => 0))), (q12, .inl (gtc g 0, 6, .inl (fun _ => 0))), (q13, .inl (gtc g 0, 6, .inl (fun _ => 0)))]) rfl ?_
  refine c_putF F ciX8 0 25 (tt := .array .int) rfl (by decide) rfl rfl rfl rfl rfl rfl (Nat.le_of_ble_eq_true rfl) m918 dX8_init_146 ?_
  refine c_ws (ws' := [(a0, .inr (8, [.int 0, .int 0, .ref q1, .ref q2, .ref q3, .ref q4, .ref q5, .int 0, .ref q6, .int 0, .ref q7, .int 0, .int 0, .int 0, .int 0, .int 0, .int 0, .int 0, .int 0, .int 0, .ref q8, .ref q9, .ref q10, .ref q11, .ref q12, .ref q13, .int 0, .int 0, .null, .null, .null, .null, .null, .int 0])), (q1, .inl (gtc g 0, 8, .inl (upd (upd (upd (upd (upd (upd (upd (upd (fun _ => 0) 0 (-1)) 1 (-1)) 2 (-1)) 3 (-1)) 4 (-1)) 5 (-1)) 6 (-1)) 7 (-1)))), (q2, .inl (gtc g 0, 8, .inl (fun _ => 0))), (q3, .inl (gtc g 0, 320, .inl (fun _ => 0))), (q4, .inl (gtc g 0, 100, .inl (fun _ => 0))), (q5, .inl (gtc g 0, 100, .inl (fun _ => 0))), (q6, .inl (gtc g 0, 2400, .inl (fun _ => 0))), (q7, .inl (gtc g 0, 500, .inl (fun _ => 0))), (q8, .inl (gtc g 0, 144, .inl (fun _ => 0))), (q9, .inl (gtc g 2, 144, .inl (fun _ => 0))), (q10, .inl (gtc g 2, 144, .inl (fun _ => 0))), (q11, .inl (gtc g 0, 144, .inl (fun _ => 0))), (q12, .inl (gtc g 0, 6, .inl (fun _ => 0))), (q13, .inl (gtc g 0, 6, .inl (fun _ => 0)))]) rfl ?_
  refine c_aload F dX8_init_149 rfl 0 rfl ?_
  refine c_bipush F (v := 6) dX8_init_150 (by decide) ?_
  refine c_newa F 0 (ty := .int) (atype := .int) rfl (fun _ h => by cases h) rfl m42 (N := 6) (fun _ => rfl) (by decide) (by decide) (by decide) (by decide) (by decide) dX8_init_152 (fun q14 => ?_)
  refine c_ws (ws' := [(a0, .inr (8, [.int 0, .int 0, .ref q1, .ref q2, .ref q3, .ref q4, .ref q5, .int 0, .ref q6, .int 0, .ref q7, .int 0, .int 0, .int 0, .int 0, .int 0, .int 0, .int 0, .int 0, .int 0, .ref q8, .ref q9, .ref q10, .ref q11, .ref q12, .ref q13, .int 0, .int 0, .null, .null, .null, .null, .null, .int 0])), (q1, .inl (gtc g 0, 8, .inl (upd (upd (upd (upd (upd (upd (upd (upd (fun _ => 0) 0 (-1)) 1 (-1)) 2 (-1)) 3 (-1)) 4 (-1)) 5 (-1)) 6 (-1)) 7 (-1)))), (q2, .inl (gtc g 0, 8, .inl (fun _ => 0))), (q3, .inl (gtc g 0, 320, .inl (fun _ => 0))), (q4, .inl (gtc g 0, 100, .inl (fun _ => 0))), (q5, .inl (gtc g 0, 100, .inl (fun _ => 0))), (q6, .inl (gtc g 0, 2400, .inl (fun _ => 0))), (q7, .inl (gtc g 0, 500, .inl (fun _ => 0))), (q8, .inl (gtc g 0, 144, .inl (fun _ => 0))), (q9, .inl (gtc g 2, 144, .inl (fun _ => 0))), (q10, .inl (gtc g 2, 144, .inl (fun _ => 0))), (q11, .inl (gtc g 0, 144, .inl (fun _ => 0))), (q12, .inl (gtc g 0, 6, .inl (fun _ => 0))), (q13, .inl (gtc g 0, 6, .inl (fun _ => 0))), (q14, .inl (gtc g 0, 6, .inl (fun _ => 0)))]) rfl ?_
  refine c_putF F ciX8 0 28 (tt := .array .int) rfl (by decide) rfl rfl rfl rfl rfl rfl (Nat.le_of_ble_eq_true rfl) m921 dX8_init_154 ?_
  refine c_ws (ws' := [(a0, .inr (8, [.int 0, .int 0, .ref q1, .ref q2, .ref q3, .ref q4, .ref q5, .int 0, .ref q6, .int 0, .ref q7, .int 0, .int 0, .int 0, .int 0, .int 0, .int 0, .int 0, .int 0, .int 0, .ref q8, .ref q9, .ref q10, .ref q11, .ref q12, .ref q13, .int 0, .int 0, .ref q14, .null, .null, .null, .null, .int 0])), (q1, .inl (gtc g 0, 8, .inl (upd (upd (upd (upd (upd (upd (upd (upd (fun _ => 0) 0 (-1)) 1 (-1)) 2 (-1)) 3 (-1)) 4 (-1)) 5 (-1)) 6 (-1)) 7 (-1)))), (q2, .inl (gtc g 0, 8, .inl (fun _ => 0))), (q3, .inl (gtc g 0, 320, .inl (fun _ => 0))), (q4, .inl (gtc g 0, 100, .inl (fun _ => 0))), (q5, .inl (gtc g 0, 100, .inl (fun _ => 0))), (q6, .inl (gtc g 0, 2400, .inl (fun _ => 0))), (q7, .inl (gtc g 0, 500, .inl (fun _ => 0))), (q8, .inl (gtc g 0, 144, .inl (fun _ => 0))), (q9, .inl (gtc g 2, 144, .inl (fun _ => 0))), (q10, .inl (gtc g 2, 144, .inl (fun _ => 0))), (q11, .inl (gtc g 0, 144, .inl (fun _ => 0))), (q12, .inl (gtc g 0, 6, .inl (fun _ => 0))), (q13, .inl (gtc g 0, 6, .inl (fun _ => 0))), (q14, .inl (gtc g 0, 6, .inl (fun _ => 0)))]) rfl ?_
  refine c_aload F dX8_init_157 rfl 0 rfl ?_
  refine c_bipush F (v := 6) dX8_init_158 (by decide) ?_
  refine c_newa F 0 (ty := .int) (atype := .int) rfl (fun _ h => by cases h) rfl m42 (N := 6) (fun _ => rfl) (by decide) (by decide) (by decide) (by decide) (by decide) dX8_init_160 (fun q15 => ?_)
  refine c_ws (ws' := [(a0, .inr (8, [.int 0, .int 0, .ref q1, .ref q2, .ref q3, .ref q4, .ref q5, .int 0, .ref q6, .int 0, .ref q7, .int 0, .int 0, .int 0, .int 0, .int 0, .int 0, .int 0, .int 0, .int 0, .ref q8, .ref q9, .ref q10, .ref q11, .ref q12, .ref q13, .int 0, .int 0, .ref q14, .null, .null, .null, .null, .int 0])), (q1, .inl (gtc g 0, 8, .inl (upd (upd (upd (upd (upd (upd (upd (upd (fun _ => 0) 0 (-1)) 1 (-1)) 2 (-1)) 3 (-1)) 4 (-1)) 5 (-1)) 6 (-1)) 7 (-1)))), (q2, .inl (gtc g 0, 8, .inl (fun _ => 0))), (q3, .inl (gtc g 0, 320, .inl (fun _ => 0))), (q4, .inl (gtc g 0, 100, .inl (fun _ => 0))), (q5, .inl (gtc g 0, 100, .inl (fun _ => 0))), (q6, .inl (gtc g 0, 2400, .inl (fun _ => 0))), (q7, .inl (gtc g 0, 500, .inl (fun _ => 0))), (q8, .inl (gtc g 0, 144, .inl (fun _ => 0))), (q9, .inl (gtc g 2, 144, .inl (fun _ => 0))), (q10, .inl (gtc g 2, 144, .inl (fun _ => 0))), (q11, .inl (gtc g 0, 144, .inl (fun _ => 0))), (q12, .inl (gtc g 0, 6, .inl (fun _ => 0))), (q13, .inl (gtc g 0, 6, .inl (fun _ => 0))), (q14, .inl (gtc g 0, 6, .inl (fun _ => 0))), (q15, .inl (gtc g 0, 6, .inl (fun _ => 0)))]) rfl ?_
  refine c_putF F ciX8 0 29 (tt := .array .int) rfl (by decide) rfl rfl rfl rfl rfl rfl (Nat.le_of_ble_eq_true rfl) m922 dX8_init_162 ?_
  refine c_ws (ws' := [(a0, .inr (8, [.int 0, .int 0, .ref q1, .ref q2, .ref q3, .ref q4, .ref q5, .int 0, .ref q6, .int 0, .ref q7, .int 0, .int 0, .int 0, .int 0, .int 0, .int 0, .int 0, .int 0, .int 0, .ref q8, .ref q9, .ref q10, .ref q11, .ref q12, .ref q13, .int 0, .int 0, .ref q14, .ref q15, .null, .null, .null, .int 0])), (q1, .inl (gtc g 0, 8, .inl (upd (upd (upd (upd (upd (upd (upd (upd (fun _ => 0) 0 (-1)) 1 (-1)) 2 (-1)) 3 (-1)) 4 (-1)) 5 (-1)) 6 (-1)) 7 (-1)))), (q2, .inl (gtc g 0, 8, .inl (fun _ => 0))), (q3, .inl (gtc g 0, 320, .inl (fun _ => 0))), (q4, .inl (gtc g 0, 100, .inl (fun _ => 0))), (q5, .inl (gtc g 0, 100, .inl (fun _ => 0))), (q6, .inl (gtc g 0, 2400, .inl (fun _ => 0))), (q7, .inl (gtc g 0, 500, .inl (fun _ => 0))), (q8, .inl (gtc g 0, 144, .inl (fun _ => 0))), (q9, .inl (gtc g 2, 144, .inl (fun _ => 0))), (q10, .inl (gtc g 2, 144, .inl (fun _ => 0))), (q11, .inl (gtc g 0, 144, .inl (fun _ => 0))), (q12, .inl (gtc g 0, 6, .inl (fun _ => 0))), (q13, .inl (gtc g 0, 6, .inl (fun _ => 0))), (q14, .inl (gtc g 0, 6, .inl (fun _ => 0))), (q15, .inl (gtc g 0, 6, .inl (fun _ => 0)))]) rfl ?_
  refine c_aload F dX8_init_165 rfl 0 rfl ?_
  refine c_iconst F (v := 2) dX8_init_166 (by decide) ?_
  refine c_newa F 2 (ty := .boolean) (atype := .boolean) rfl (fun _ h => by cases h) rfl m996 (N := 2) (fun _ => rfl) (by decide) (by decide) (by decide) (by decide) (by decide) dX8_init_167 (fun q16 => ?_)
  refine c_ws (ws' := [(a0, .inr (8, [.int 0, .int 0, .ref q1, .ref q2, .ref q3, .ref q4, .ref q5, .int 0, .ref q6, .int 0, .ref q7, .int 0, .int 0, .int 0, .int 0, .int 0, .int 0, .int 0, .int 0, .int 0, .ref q8, .ref q9, .ref q10, .ref q11, .ref q12, .ref q13, .int 0, .int 0, .ref q14, .ref q15, .null, .null, .null, .int 0])), (q1, .inl (gtc g 0, 8, .inl (upd (upd (upd (upd (upd (upd (upd (upd (fun _ => 0) 0 (-1)) 1 (-1)) 2 (-1)) 3 (-1)) 4 (-1)) 5 (-1)) 6 (-1)) 7 (-1)))), (q2, .inl (gtc g 0, 8, .inl (fun _ => 0))), (q3, .inl (gtc g 0, 320, .inl (fun _ => 0))), (q4, .inl (gtc g 0, 100, .inl (fun _ => 0))), (q5, .inl (gtc g 0, 100, .inl (fun _ => 0))), (q6, .inl (gtc g 0, 2400, .inl (fun _ => 0))), (q7, .inl (gtc g 0, 500, .inl (fun _ => 0))), (q8, .inl (gtc g 0, 144, .inl (fun _ => 0))), (q9, .inl (gtc g 2, 144, .inl (fun _ => 0))), (q10, .inl (gtc g 2, 144, .inl (fun _ => 0))), (q11, .inl (gtc g 0, 144, .inl (fun _ => 0))), (q12, .inl (gtc g 0, 6, .inl (fun _ => 0))), (q13, .inl (gtc g 0, 6, .inl (fun _ => 0))), (q14, .inl (gtc g 0, 6, .inl (fun _ => 0))), (q15, .inl (gtc g 0, 6, .inl (fun _ => 0))), (q16, .inl (gtc g 2, 2, .inl (fun _ => 0)))]) rfl ?_
  refine c_putF F ciX8 0 30 (tt := .array .boolean) rfl (by decide) rfl rfl rfl rfl rfl rfl (Nat.le_of_ble_eq_true rfl) m923 dX8_init_169 ?_
  refine c_ws (ws' := [(a0, .inr (8, [.int 0, .int 0, .ref q1, .ref q2, .ref q3, .ref q4, .ref q5, .int 0, .ref q6, .int 0, .ref q7, .int 0, .int 0, .int 0, .int 0, .int 0, .int 0, .int 0, .int 0, .int 0, .ref q8, .ref q9, .ref q10, .ref q11, .ref q12, .ref q13, .int 0, .int 0, .ref q14, .ref q15, .ref q16, .null, .null, .int 0])), (q1, .inl (gtc g 0, 8, .inl (upd (upd (upd (upd (upd (upd (upd (upd (fun _ => 0) 0 (-1)) 1 (-1)) 2 (-1)) 3 (-1)) 4 (-1)) 5 (-1)) 6 (-1)) 7 (-1)))), (q2, .inl (gtc g 0, 8, .inl (fun _ => 0))), (q3, .inl (gtc g 0, 320, .inl (fun _ => 0))), (q4, .inl (gtc g 0, 100, .inl (fun _ => 0))), (q5, .inl (gtc g 0, 100, .inl (fun _ => 0))), (q6, .inl (gtc g 0, 2400, .inl (fun _ => 0))), (q7, .inl (gtc g 0, 500, .inl (fun _ => 0))), (q8, .inl (gtc g 0, 144, .inl (fun _ => 0))), (q9, .inl (gtc g 2, 144, .inl (fun _ => 0))), (q10, .inl (gtc g 2, 144, .inl (fun _ => 0))), (q11, .inl (gtc g 0, 144, .inl (fun _ => 0))), (q12, .inl (gtc g 0, 6, .inl (fun _ => 0))), (q13, .inl (gtc g 0, 6, .inl (fun _ => 0))), (q14, .inl (gtc g 0, 6, .inl (fun _ => 0))), (q15, .inl (gtc g 0, 6, .inl (fun _ => 0))), (q16, .inl (gtc g 2, 2, .inl (fun _ => 0)))]) rfl ?_
  refine c_aload F dX8_init_172 rfl 0 rfl ?_
  refine c_sipush F (v := 200) dX8_init_173 (by decide) ?_
  refine c_newa F 0 (ty := .int) (atype := .int) rfl (fun _ h => by cases h) rfl m42 (N := 200) (fun _ => rfl) (by decide) (by decide) (by decide) (by decide) (by decide) dX8_init_176 (fun q17 => ?_)
  refine c_ws (ws' := [(a0, .inr (8, [.int 0, .int 0, .ref q1, .ref q2, .ref q3, .ref q4, .ref q5, .int 0, .ref q6, .int 0, .ref q7, .int 0, .int 0, .int 0, .int 0, .int 0, .int 0, .int 0, .int 0, .int 0, .ref q8, .ref q9, .ref q10, .ref q11, .ref q12, .ref q13, .int 0, .int 0, .ref q14, .ref q15, .ref q16, .null, .null, .int 0])), (q1, .inl (gtc g 0, 8, .inl (upd (upd (upd (upd (upd (upd (upd (upd (fun _ => 0) 0 (-1)) 1 (-1)) 2 (-1)) 3 (-1)) 4 (-1)) 5 (-1)) 6 (-1)) 7 (-1)))), (q2, .inl (gtc g 0, 8, .inl (fun _ => 0))), (q3, .inl (gtc g 0, 320, .inl (fun _ => 0))), (q4, .inl (gtc g 0, 100, .inl (fun _ => 0))), (q5, .inl (gtc g 0, 100, .inl (fun _ => 0))), (q6, .inl (gtc g 0, 2400, .inl (fun _ => 0))), (q7, .inl (gtc g 0, 500, .inl (fun _ => 0))), (q8, .inl (gtc g 0, 144, .inl (fun _ => 0))), (q9, .inl (gtc g 2, 144, .inl (fun _ => 0))), (q10, .inl (gtc g 2, 144, .inl (fun _ => 0))), (q11, .inl (gtc g 0, 144, .inl (fun _ => 0))), (q12, .inl (gtc g 0, 6, .inl (fun _ => 0))), (q13, .inl (gtc g 0, 6, .inl (fun _ => 0))), (q14, .inl (gtc g 0, 6, .inl (fun _ => 0))), (q15, .inl (gtc g 0, 6, .inl (fun _ => 0))), (q16, .inl (gtc g 2, 2, .inl (fun _ => 0))), (q17, .inl (gtc g 0, 200, .inl (fun _ => 0)))]) rfl ?_
  refine c_putF F ciX8 0 31 (tt := .array .int) rfl (by decide) rfl rfl rfl rfl rfl rfl (Nat.le_of_ble_eq_true rfl) m924 dX8_init_178 ?_
  refine c_ws (ws' := [(a0, .inr (8, [.int 0, .int 0, .ref q1, .ref q2, .ref q3, .ref q4, .ref q5, .int 0, .ref q6, .int 0, .ref q7, .int 0, .int 0, .int 0, .int 0, .int 0, .int 0, .int 0, .int 0, .int 0, .ref q8, .ref q9, .ref q10, .ref q11, .ref q12, .ref q13, .int 0, .int 0, .ref q14, .ref q15, .ref q16, .ref q17, .null, .int 0])), (q1, .inl (gtc g 0, 8, .inl (upd (upd (upd (upd (upd (upd (upd (upd (fun _ => 0) 0 (-1)) 1 (-1)) 2 (-1)) 3 (-1)) 4 (-1)) 5 (-1)) 6 (-1)) 7 (-1)))), (q2, .inl (gtc g 0, 8, .inl (fun _ => 0))), (q3, .inl (gtc g 0, 320, .inl (fun _ => 0))), (q4, .inl (gtc g 0, 100, .inl (fun _ => 0))), (q5, .inl (gtc g 0, 100, .inl (fun _ => 0))), (q6, .inl (gtc g 0, 2400, .inl (fun _ => 0))), (q7, .inl (gtc g 0, 500, .inl (fun _ => 0))), (q8, .inl (gtc g 0, 144, .inl (fun _ => 0))), (q9, .inl (gtc g 2, 144, .inl (fun _ => 0))), (q10, .inl (gtc g 2, 144, .inl (fun _ => 0))), (q11, .inl (gtc g 0, 144, .inl (fun _ => 0))), (q12, .inl (gtc g 0, 6, .inl (fun _ => 0))), (q13, .inl (gtc g 0, 6, .inl (fun _ => 0))), (q14, .inl (gtc g 0, 6, .inl (fun _ => 0))), (q15, .inl (gtc g 0, 6, .inl (fun _ => 0))), (q16, .inl (gtc g 2, 2, .inl (fun _ => 0))), (q17, .inl (gtc g 0, 200, .inl (fun _ => 0)))]) rfl ?_
  refine c_aload F dX8_init_181 rfl 0 rfl ?_
  refine c_bipush F (v := 16) dX8_init_182 (by decide) ?_
  refine c_newa F 0 (ty := .int) (atype := .int) rfl (fun _ h => by cases h) rfl m42 (N := 16) (fun _ => rfl) (by decide) (by decide) (by decide) (by decide) (by decide) dX8_init_184 (fun q18 => ?_)
  refine c_ws (ws' := [(a0, .inr (8, [.int 0, .int 0, .ref q1, .ref q2, .ref q3, .ref q4, .ref q5, .int 0, .ref q6, .int 0, .ref q7, .int 0, .int 0, .int 0, .int 0, .int 0, .int 0, .int 0, .int 0, .int 0, .ref q8, .ref q9, .ref q10, .ref q11, .ref q12, .ref q13, .int 0, .int 0, .ref q14, .ref q15, .ref q16, .ref q17, .null, .int 0])), (q1, .inl (gtc g 0, 8, .inl (upd (upd (upd (upd (upd (upd (upd (upd (fun _ => 0) 0 (-1)) 1 (-1)) 2 (-1)) 3 (-1)) 4 (-1)) 5 (-1)) 6 (-1)) 7 (-1)))), (q2, .inl (gtc g 0, 8, .inl (fun _ => 0))), (q3, .inl (gtc g 0, 320, .inl (fun _ => 0))), (q4, .inl (gtc g 0, 100, .inl (fun _ => 0))), (q5, .inl (gtc g 0, 100, .inl (fun _ => 0))), (q6, .inl (gtc g 0, 2400, .inl (fun _ => 0))), (q7, .inl (gtc g 0, 500, .inl (fun _ => 0))), (q8, .inl (gtc g 0, 144, .inl (fun _ => 0))), (q9, .inl (gtc g 2, 144, .inl (fun _ => 0))), (q10, .inl (gtc g 2, 144, .inl (fun _ => 0))), (q11, .inl (gtc g 0, 144, .inl (fun _ => 0))), (q12, .inl (gtc g 0, 6, .inl (fun _ => 0))), (q13, .inl (gtc g 0, 6, .inl (fun _ => 0))), (q14, .inl (gtc g 0, 6, .inl (fun _ => 0))), (q15, .inl (gtc g 0, 6, .inl (fun _ => 0))), (q16, .inl (gtc g 2, 2, .inl (fun _ => 0))), (q17, .inl (gtc g 0, 200, .inl (fun _ => 0))), (q18, .inl (gtc g 0, 16, .inl (fun _ => 0)))]) rfl ?_
  refine c_putF F ciX8 0 32 (tt := .array .int) rfl (by decide) rfl rfl rfl rfl rfl rfl (Nat.le_of_ble_eq_true rfl) m925 dX8_init_186 ?_
  refine c_ws (ws' := [(a0, .inr (8, [.int 0, .int 0, .ref q1, .ref q2, .ref q3, .ref q4, .ref q5, .int 0, .ref q6, .int 0, .ref q7, .int 0, .int 0, .int 0, .int 0, .int 0, .int 0, .int 0, .int 0, .int 0, .ref q8, .ref q9, .ref q10, .ref q11, .ref q12, .ref q13, .int 0, .int 0, .ref q14, .ref q15, .ref q16, .ref q17, .ref q18, .int 0])), (q1, .inl (gtc g 0, 8, .inl (upd (upd (upd (upd (upd (upd (upd (upd (fun _ => 0) 0 (-1)) 1 (-1)) 2 (-1)) 3 (-1)) 4 (-1)) 5 (-1)) 6 (-1)) 7 (-1)))), (q2, .inl (gtc g 0, 8, .inl (fun _ => 0))), (q3, .inl (gtc g 0, 320, .inl (fun _ => 0))), (q4, .inl (gtc g 0, 100, .inl (fun _ => 0))), (q5, .inl (gtc g 0, 100, .inl (fun _ => 0))), (q6, .inl (gtc g 0, 2400, .inl (fun _ => 0))), (q7, .inl (gtc g 0, 500, .inl (fun _ => 0))), (q8, .inl (gtc g 0, 144, .inl (fun _ => 0))), (q9, .inl (gtc g 2, 144, .inl (fun _ => 0))), (q10, .inl (gtc g 2, 144, .inl (fun _ => 0))), (q11, .inl (gtc g 0, 144, .inl (fun _ => 0))), (q12, .inl (gtc g 0, 6, .inl (fun _ => 0))), (q13, .inl (gtc g 0, 6, .inl (fun _ => 0))), (q14, .inl (gtc g 0, 6, .inl (fun _ => 0))), (q15, .inl (gtc g 0, 6, .inl (fun _ => 0))), (q16, .inl (gtc g 2, 2, .inl (fun _ => 0))), (q17, .inl (gtc g 0, 200, .inl (fun _ => 0))), (q18, .inl (gtc g 0, 16, .inl (fun _ => 0)))]) rfl ?_
  exact c_ret F (fun i => [a0, q1, q2, q3, q4, q5, q6, q7, q8, q9, q10, q11, q12, q13, q14, q15, q16, q17, q18].getD i 0) (by decide) (by decide) rfl rfl hA dX8_init_189
theorem dX7_init_0 : decode cX7_init 0 = .ok (.aload_n 0, 1) := by decide +kernel
theorem dX7_init_1 : decode cX7_init 1 = .ok (.invokespecial 1, 3) := by decide +kernel
theorem dX7_init_4 : decode cX7_init 4 = .ok (.aload_n 0, 1) := by decide +kernel
theorem dX7_init_5 : decode cX7_init 5 = .ok (.new 7, 3) := by decide +kernel
theorem dX7_init_8 : decode cX7_init 8 = .ok (.dup, 1) := by decide +kernel
theorem dX7_init_9 : decode cX7_init 9 = .ok (.invokespecial 9, 3) := by decide +kernel
theorem dX7_init_12 : decode cX7_init 12 = .ok (.putfield 10, 3) := by decide +kernel
theorem dX7_init_15 : decode cX7_init 15 = .ok (.aload_n 0, 1) := by decide +kernel
theorem dX7_init_16 : decode cX7_init 16 = .ok (.new 16, 3) := by decide +kernel
theorem dX7_init_19 : decode cX7_init 19 = .ok (.dup, 1) := by decide +kernel
theorem dX7_init_20 : decode cX7_init 20 = .ok (.invokespecial 18, 3) := by decide +kernel
theorem dX7_init_23 : decode cX7_init 23 = .ok (.putfield 19, 3) := by decide +kernel
theorem dX7_init_26 : decode cX7_init 26 = .ok (.aload_n 0, 1) := by decide +kernel
theorem dX7_init_27 : decode cX7_init 27 = .ok (.new 23, 3) := by decide +kernel
theorem dX7_init_30 : decode cX7_init 30 = .ok (.dup, 1) := by decide +kernel
theorem dX7_init_31 : decode cX7_init 31 = .ok (.invokespecial 25, 3) := by decide +kernel
theorem dX7_init_34 : decode cX7_init 34 = .ok (.putfield 26, 3) := by decide +kernel
theorem dX7_init_37 : decode cX7_init 37 = .ok (.aload_n 0, 1) := by decide +kernel
theorem dX7_init_38 : decode cX7_init 38 = .ok (.new 30, 3) := by decide +kernel
theorem dX7_init_41 : decode cX7_init 41 = .ok (.dup, 1) := by decide +kernel
theorem dX7_init_42 : decode cX7_init 42 = .ok (.invokespecial 32, 3) := by decide +kernel
theorem dX7_init_45 : decode cX7_init 45 = .ok (.putfield 33, 3) := by decide +kernel
theorem dX7_init_48 : decode cX7_init 48 = .ok (.aload_n 0, 1) := by decide +kernel
theorem dX7_init_49 : decode cX7_init 49 = .ok (.new 30, 3) := by decide +kernel
theorem dX7_init_52 : decode cX7_init 52 = .ok (.dup, 1) := by decide +kernel
theorem dX7_init_53 : decode cX7_init 53 = .ok (.invokespecial 32, 3) := by decide +kernel
theorem dX7_init_56 : decode cX7_init 56 = .ok (.putfield 37, 3) := by decide +kernel
theorem dX7_init_59 : decode cX7_init 59 = .ok (.aload_n 0, 1) := by decide +kernel
theorem dX7_init_60 : decode cX7_init 60 = .ok (.new 30, 3) := by decide +kernel
theorem dX7_init_63 : decode cX7_init 63 = .ok (.dup, 1) := by decide +kernel
theorem dX7_init_64 : decode cX7_init 64 = .ok (.invokespecial 32, 3) := by decide +kernel
theorem dX7_init_67 : decode cX7_init 67 = .ok (.putfield 40, 3) := by decide +kernel
theorem dX7_init_70 : decode cX7_init 70 = .ok (.aload_n 0, 1) := by decide +kernel
theorem dX7_init_71 : decode cX7_init 71 = .ok (.new 43, 3) := by decide +kernel
theorem dX7_init_74 : decode cX7_init 74 = .ok (.dup, 1) := by decide +kernel
theorem dX7_init_75 : decode cX7_init 75 = .ok (.invokespecial 45, 3) := by decide +kernel
theorem dX7_init_78 : decode cX7_init 78 = .ok (.putfield 46, 3) := by decide +kernel
theorem dX7_init_81 : decode cX7_init 81 = .ok (.aload_n 0, 1) := by decide +kernel
theorem dX7_init_82 : decode cX7_init 82 = .ok (.new 50, 3) := by decide +kernel
theorem dX7_init_85 : decode cX7_init 85 = .ok (.dup, 1) := by decide +kernel
theorem dX7_init_86 : decode cX7_init 86 = .ok (.invokespecial 52, 3) := by decide +kernel
theorem dX7_init_89 : decode cX7_init 89 = .ok (.putfield 53, 3) := by decide +kernel
theorem dX7_init_92 : decode cX7_init 92 = .ok (.aload_n 0, 1) := by decide +kernel
theorem dX7_init_93 : decode cX7_init 93 = .ok (.new 57, 3) := by decide +kernel
theorem dX7_init_96 : decode cX7_init 96 = .ok (.dup, 1) := by decide +kernel
theorem dX7_init_97 : decode cX7_init 97 = .ok (.invokespecial 59, 3) := by decide +kernel
theorem dX7_init_100 : decode cX7_init 100 = .ok (.putfield 60, 3) := by decide +kernel
theorem dX7_init_103 : decode cX7_init 103 = .ok (.return_, 1) := by decide +kernel
set_option maxRecDepth 100000 in
set_option maxHeartbeats 8000000 in
theorem cc_X7 (l : Launch) (g : GC) : Cc l yX7_init cX7_init { frames := 3, cells := 59, slots := 1499, locals := 108 } g 7 fz7 lam7 hz7 59 1499 := by
  refine Cc.of (by decide +kernel) rfl (fun z a0 sz A hzl hA F => ?_)
  subst hzl
  refine c_ws (ws' := [(a0, .inr (7, [.null, .null, .null, .null, .null, .null, .null, .null, .null, .int 0, .int 0]))]) rfl ?_
  refine c_aload F dX7_init_0 rfl 0 rfl ?_
  refine c_obj F m23 m24 m25 (by decide) (by decide) rfl dX7_init_1 ?_
  refine c_aload F dX7_init_4 rfl 0 rfl ?_
  refine c_new F ciX5 (fs := fz5) m26 m27 m2 fz5_ok (by decide) (by decide) dX7_init_5 (fun q1 => ?_)
  refine c_ws (ws' := [(a0, .inr (7, [.null, .null, .null, .null, .null, .null, .null, .null, .null, .int 0, .int 0])), (q1, .inr (5, [.null, .null, .null]))]) rfl ?_
  refine c_dup F dX7_init_8 rfl ?_
  refine c_call F (cc_X5 z.2.1 g) m29 m2 m30 (Or.inl (List.mem_of_getElem? (i := 5) rfl)) rfl ⟨by decide +kernel, by decide +kernel, by decide +kernel⟩ (by decide) (by decide) (by decide) (by decide) rfl (Nat.le_of_ble_eq_true rfl) dX7_init_9 (fun u2 e_u2 => ?_)
  refine c_ws (ws' := [(a0, .inr (7, [.null, .null, .null, .null, .null, .null, .null, .null, .null, .int 0, .int 0])), ((u2 0), .inr (5, [.ref (u2 1), .ref (u2 2), .ref (u2 3)])), ((u2 1), .inl (gtc g 0, 8, .inl (fun _ => 0))), ((u2 2), .inl (gtc g 0, 8, .inl (neg8))), ((u2 3), .inl (gtc g 0, 320, .inl (fun _ => 0)))]) rfl ?_
  rw [← e_u2]
  refine c_putF F ciX7 0 0 (tt := .object "ArchTrades$Rows") rfl (by decide) rfl rfl rfl rfl rfl rfl (Nat.le_of_ble_eq_true rfl) m239 dX7_init_12 ?_
  refine c_ws (ws' := [(a0, .inr (7, [.ref (u2 0), .null, .null, .null, .null, .null, .null, .null, .null, .int 0, .int 0])), ((u2 0), .inr (5, [.ref (u2 1), .ref (u2 2), .ref (u2 3)])), ((u2 1), .inl (gtc g 0, 8, .inl (fun _ => 0))), ((u2 2), .inl (gtc g 0, 8, .inl (neg8))), ((u2 3), .inl (gtc g 0, 320, .inl (fun _ => 0)))]) rfl ?_
  refine c_aload F dX7_init_15 rfl 0 rfl ?_
  refine c_new F ciX6 (fs := fz6) m43 m44 m3 fz6_ok (by decide) (by decide) dX7_init_16 (fun q3 => ?_)
  refine c_ws (ws' := [(a0, .inr (7, [.ref (u2 0), .null, .null, .null, .null, .null, .null, .null, .null, .int 0, .int 0])), ((u2 0), .inr (5, [.ref (u2 1), .ref (u2 2), .ref (u2 3)])), ((u2 1), .inl (gtc g 0, 8, .inl (fun _ => 0))), ((u2 2), .inl (gtc g 0, 8, .inl (neg8))), ((u2 3), .inl (gtc g 0, 320, .inl (fun _ => 0))), (q3, .inr (6, [.null, .int 0, .int 0, .int 0, .int 0]))]) rfl ?_
  refine c_dup F dX7_init_19 rfl ?_
  refine c_call F (cc_X6 z.2.1 g) m46 m3 m47 (Or.inl (List.mem_of_getElem? (i := 6) rfl)) rfl ⟨by decide +kernel, by decide +kernel, by decide +kernel⟩ (by decide) (by decide) (by decide) (by decide) rfl (Nat.le_of_ble_eq_true rfl) dX7_init_20 (fun u4 e_u4 => ?_)
  refine c_ws (ws' := [(a0, .inr (7, [.ref (u2 0), .null, .null, .null, .null, .null, .null, .null, .null, .int 0, .int 0])), ((u2 0), .inr (5, [.ref (u2 1), .ref (u2 2), .ref (u2 3)])), ((u2 1), .inl (gtc g 0, 8, .inl (fun _ => 0))), ((u2 2), .inl (gtc g 0, 8, .inl (neg8))), ((u2 3), .inl (gtc g 0, 320, .inl (fun _ => 0))), ((u4 0), .inr (6, [.ref (u4 1), .int 0, .int 0, .int 0, .int 0])), ((u4 1), .inl (gtc g 1, 500, .inl (fun _ => 0)))]) rfl ?_
  rw [← e_u4]
  refine c_putF F ciX7 0 1 (tt := .object "ArchTrades$Tape") rfl (by decide) rfl rfl rfl rfl rfl rfl (Nat.le_of_ble_eq_true rfl) m240 dX7_init_23 ?_
  refine c_ws (ws' := [(a0, .inr (7, [.ref (u2 0), .ref (u4 0), .null, .null, .null, .null, .null, .null, .null, .int 0, .int 0])), ((u2 0), .inr (5, [.ref (u2 1), .ref (u2 2), .ref (u2 3)])), ((u2 1), .inl (gtc g 0, 8, .inl (fun _ => 0))), ((u2 2), .inl (gtc g 0, 8, .inl (neg8))), ((u2 3), .inl (gtc g 0, 320, .inl (fun _ => 0))), ((u4 0), .inr (6, [.ref (u4 1), .int 0, .int 0, .int 0, .int 0])), ((u4 1), .inl (gtc g 1, 500, .inl (fun _ => 0)))]) rfl ?_
  refine c_aload F dX7_init_26 rfl 0 rfl ?_
  refine c_new F ciX4 (fs := fz4) m66 m67 m4 fz4_ok (by decide) (by decide) dX7_init_27 (fun q5 => ?_)
  refine c_ws (ws' := [(a0, .inr (7, [.ref (u2 0), .ref (u4 0), .null, .null, .null, .null, .null, .null, .null, .int 0, .int 0])), ((u2 0), .inr (5, [.ref (u2 1), .ref (u2 2), .ref (u2 3)])), ((u2 1), .inl (gtc g 0, 8, .inl (fun _ => 0))), ((u2 2), .inl (gtc g 0, 8, .inl (neg8))), ((u2 3), .inl (gtc g 0, 320, .inl (fun _ => 0))), ((u4 0), .inr (6, [.ref (u4 1), .int 0, .int 0, .int 0, .int 0])), ((u4 1), .inl (gtc g 1, 500, .inl (fun _ => 0))), (q5, .inr (4, [.null, .int 0]))]) rfl ?_
  refine c_dup F dX7_init_30 rfl ?_
  refine c_call F (cc_X4 z.2.1 g) m69 m4 m70 (Or.inl (List.mem_of_getElem? (i := 7) rfl)) rfl ⟨by decide +kernel, by decide +kernel, by decide +kernel⟩ (by decide) (by decide) (by decide) (by decide) rfl (Nat.le_of_ble_eq_true rfl) dX7_init_31 (fun u6 e_u6 => ?_)
  refine c_ws (ws' := [(a0, .inr (7, [.ref (u2 0), .ref (u4 0), .null, .null, .null, .null, .null, .null, .null, .int 0, .int 0])), ((u2 0), .inr (5, [.ref (u2 1), .ref (u2 2), .ref (u2 3)])), ((u2 1), .inl (gtc g 0, 8, .inl (fun _ => 0))), ((u2 2), .inl (gtc g 0, 8, .inl (neg8))), ((u2 3), .inl (gtc g 0, 320, .inl (fun _ => 0))), ((u4 0), .inr (6, [.ref (u4 1), .int 0, .int 0, .int 0, .int 0])), ((u4 1), .inl (gtc g 1, 500, .inl (fun _ => 0))), ((u6 0), .inr (4, [.ref (u6 1), .int 0])), ((u6 1), .inr (2, [.int 0, .int 0, .int 0, .int 0, .int 0, .int 0, .int 0, .ref (u6 2), .ref (u6 3), .ref (u6 4), .ref (u6 5), .ref (u6 6), .ref (u6 7), .ref (u6 8), .ref (u6 9)])), ((u6 2), .inl (gtc g 0, 12, .inl (fun _ => 0))), ((u6 3), .inl (gtc g 0, 12, .inl (fun _ => 0))), ((u6 4), .inl (gtc g 0, 6, .inl (fun _ => 0))), ((u6 5), .inl (gtc g 0, 6, .inl (fun _ => 0))), ((u6 6), .inl (gtc g 0, 6, .inl (fun _ => 0))), ((u6 7), .inl (gtc g 0, 6, .inl (fun _ => 0))), ((u6 8), .inl (gtc g 0, 24, .inl (fun _ => 0))), ((u6 9), .inl (gtc g 0, 24, .inl (fun _ => 0)))]) rfl ?_
  rw [← e_u6]
  refine c_putF F ciX7 0 2 (tt := .object "ArchTrades$Reader") rfl (by decide) rfl rfl rfl rfl rfl rfl (Nat.le_of_ble_eq_true rfl) m241 dX7_init_34 ?_
  refine c_ws (ws' := [(a0, .inr (7, [.ref (u2 0), .ref (u4 0), .ref (u6 0), .null, .null, .null, .null, .null, .null, .int 0, .int 0])), ((u2 0), .inr (5, [.ref (u2 1), .ref (u2 2), .ref (u2 3)])), ((u2 1), .inl (gtc g 0, 8, .inl (fun _ => 0))), ((u2 2), .inl (gtc g 0, 8, .inl (neg8))), ((u2 3), .inl (gtc g 0, 320, .inl (fun _ => 0))), ((u4 0), .inr (6, [.ref (u4 1), .int 0, .int 0, .int 0, .int 0])), ((u4 1), .inl (gtc g 1, 500, .inl (fun _ => 0))), ((u6 0), .inr (4, [.ref (u6 1), .int 0])), ((u6 1), .inr (2, [.int 0, .int 0, .int 0, .int 0, .int 0, .int 0, .int 0, .ref (u6 2), .ref (u6 3), .ref (u6 4), .ref (u6 5), .ref (u6 6), .ref (u6 7), .ref (u6 8), .ref (u6 9)])), ((u6 2), .inl (gtc g 0, 12, .inl (fun _ => 0))), ((u6 3), .inl (gtc g 0, 12, .inl (fun _ => 0))), ((u6 4), .inl (gtc g 0, 6, .inl (fun _ => 0))), ((u6 5), .inl (gtc g 0, 6, .inl (fun _ => 0))), ((u6 6), .inl (gtc g 0, 6, .inl (fun _ => 0))), ((u6 7), .inl (gtc g 0, 6, .inl (fun _ => 0))), ((u6 8), .inl (gtc g 0, 24, .inl (fun _ => 0))), ((u6 9), .inl (gtc g 0, 24, .inl (fun _ => 0)))]) rfl ?_
  refine c_aload F dX7_init_37 rfl 0 rfl ?_
  refine c_new F ciX2 (fs := fz2) m159 m73 m5 fz2_ok (by decide) (by decide) dX7_init_38 (fun q7 => ?_)
  refine c_ws (ws' := [(a0, .inr (7, [.ref (u2 0), .ref (u4 0), .ref (u6 0), .null, .null, .null, .null, .null, .null, .int 0, .int 0])), ((u2 0), .inr (5, [.ref (u2 1), .ref (u2 2), .ref (u2 3)])), ((u2 1), .inl (gtc g 0, 8, .inl (fun _ => 0))), ((u2 2), .inl (gtc g 0, 8, .inl (neg8))), ((u2 3), .inl (gtc g 0, 320, .inl (fun _ => 0))), ((u4 0), .inr (6, [.ref (u4 1), .int 0, .int 0, .int 0, .int 0])), ((u4 1), .inl (gtc g 1, 500, .inl (fun _ => 0))), ((u6 0), .inr (4, [.ref (u6 1), .int 0])), ((u6 1), .inr (2, [.int 0, .int 0, .int 0, .int 0, .int 0, .int 0, .int 0, .ref (u6 2), .ref (u6 3), .ref (u6 4), .ref (u6 5), .ref (u6 6), .ref (u6 7), .ref (u6 8), .ref (u6 9)])), ((u6 2), .inl (gtc g 0, 12, .inl (fun _ => 0))), ((u6 3), .inl (gtc g 0, 12, .inl (fun _ => 0))), ((u6 4), .inl (gtc g 0, 6, .inl (fun _ => 0))), ((u6 5), .inl (gtc g 0, 6, .inl (fun _ => 0))), ((u6 6), .inl (gtc g 0, 6, .inl (fun _ => 0))), ((u6 7), .inl (gtc g 0, 6, .inl (fun _ => 0))), ((u6 8), .inl (gtc g 0, 24, .inl (fun _ => 0))), ((u6 9), .inl (gtc g 0, 24, .inl (fun _ => 0))), (q7, .inr (2, [.int 0, .int 0, .int 0, .int 0, .int 0, .int 0, .int 0, .null, .null, .null, .null, .null, .null, .null, .null]))]) rfl ?_
  refine c_dup F dX7_init_41 rfl ?_
  refine c_call F (cc_X2 z.2.1 g) m75 m5 m76 (Or.inl (List.mem_of_getElem? (i := 9) rfl)) rfl ⟨by decide +kernel, by decide +kernel, by decide +kernel⟩ (by decide) (by decide) (by decide) (by decide) rfl (Nat.le_of_ble_eq_true rfl) dX7_init_42 (fun u8 e_u8 => ?_)
  refine c_ws (ws' := [(a0, .inr (7, [.ref (u2 0), .ref (u4 0), .ref (u6 0), .null, .null, .null, .null, .null, .null, .int 0, .int 0])), ((u2 0), .inr (5, [.ref (u2 1), .ref (u2 2), .ref (u2 3)])), ((u2 1), .inl (gtc g 0, 8, .inl (fun _ => 0))), ((u2 2), .inl (gtc g 0, 8, .inl (neg8))), ((u2 3), .inl (gtc g 0, 320, .inl (fun _ => 0))), ((u4 0), .inr (6, [.ref (u4 1), .int 0, .int 0, .int 0, .int 0])), ((u4 1), .inl (gtc g 1, 500, .inl (fun _ => 0))), ((u6 0), .inr (4, [.ref (u6 1), .int 0])), ((u6 1), .inr (2, [.int 0, .int 0, .int 0, .int 0, .int 0, .int 0, .int 0, .ref (u6 2), .ref (u6 3), .ref (u6 4), .ref (u6 5), .ref (u6 6), .ref (u6 7), .ref (u6 8), .ref (u6 9)])), ((u6 2), .inl (gtc g 0, 12, .inl (fun _ => 0))), ((u6 3), .inl (gtc g 0, 12, .inl (fun _ => 0))), ((u6 4), .inl (gtc g 0, 6, .inl (fun _ => 0))), ((u6 5), .inl (gtc g 0, 6, .inl (fun _ => 0))), ((u6 6), .inl (gtc g 0, 6, .inl (fun _ => 0))), ((u6 7), .inl (gtc g 0, 6, .inl (fun _ => 0))), ((u6 8), .inl (gtc g 0, 24, .inl (fun _ => 0))), ((u6 9), .inl (gtc g 0, 24, .inl (fun _ => 0))), ((u8 0), .inr (2, [.int 0, .int 0, .int 0, .int 0, .int 0, .int 0, .int 0, .ref (u8 1), .ref (u8 2), .ref (u8 3), .ref (u8 4), .ref (u8 5), .ref (u8 6), .ref (u8 7), .ref (u8 8)])), ((u8 1), .inl (gtc g 0, 12, .inl (fun _ => 0))), ((u8 2), .inl (gtc g 0, 12, .inl (fun _ => 0))), ((u8 3), .inl (gtc g 0, 6, .inl (fun _ => 0))), ((u8 4), .inl (gtc g 0, 6, .inl (fun _ => 0))), ((u8 5), .inl (gtc g 0, 6, .inl (fun _ => 0))), ((u8 6), .inl (gtc g 0, 6, .inl (fun _ => 0))), ((u8 7), .inl (gtc g 0, 24, .inl (fun _ => 0))), ((u8 8), .inl (gtc g 0, 24, .inl (fun _ => 0)))]) rfl ?_
  rw [← e_u8]
  refine c_putF F ciX7 0 3 (tt := .object "ArchTrades$Bridge") rfl (by decide) rfl rfl rfl rfl rfl rfl (Nat.le_of_ble_eq_true rfl) m242 dX7_init_45 ?_
  refine c_ws (ws' := [(a0, .inr (7, [.ref (u2 0), .ref (u4 0), .ref (u6 0), .ref (u8 0), .null, .null, .null, .null, .null, .int 0, .int 0])), ((u2 0), .inr (5, [.ref (u2 1), .ref (u2 2), .ref (u2 3)])), ((u2 1), .inl (gtc g 0, 8, .inl (fun _ => 0))), ((u2 2), .inl (gtc g 0, 8, .inl (neg8))), ((u2 3), .inl (gtc g 0, 320, .inl (fun _ => 0))), ((u4 0), .inr (6, [.ref (u4 1), .int 0, .int 0, .int 0, .int 0])), ((u4 1), .inl (gtc g 1, 500, .inl (fun _ => 0))), ((u6 0), .inr (4, [.ref (u6 1), .int 0])), ((u6 1), .inr (2, [.int 0, .int 0, .int 0, .int 0, .int 0, .int 0, .int 0, .ref (u6 2), .ref (u6 3), .ref (u6 4), .ref (u6 5), .ref (u6 6), .ref (u6 7), .ref (u6 8), .ref (u6 9)])), ((u6 2), .inl (gtc g 0, 12, .inl (fun _ => 0))), ((u6 3), .inl (gtc g 0, 12, .inl (fun _ => 0))), ((u6 4), .inl (gtc g 0, 6, .inl (fun _ => 0))), ((u6 5), .inl (gtc g 0, 6, .inl (fun _ => 0))), ((u6 6), .inl (gtc g 0, 6, .inl (fun _ => 0))), ((u6 7), .inl (gtc g 0, 6, .inl (fun _ => 0))), ((u6 8), .inl (gtc g 0, 24, .inl (fun _ => 0))), ((u6 9), .inl (gtc g 0, 24, .inl (fun _ => 0))), ((u8 0), .inr (2, [.int 0, .int 0, .int 0, .int 0, .int 0, .int 0, .int 0, .ref (u8 1), .ref (u8 2), .ref (u8 3), .ref (u8 4), .ref (u8 5), .ref (u8 6), .ref (u8 7), .ref (u8 8)])), ((u8 1), .inl (gtc g 0, 12, .inl (fun _ => 0))), ((u8 2), .inl (gtc g 0, 12, .inl (fun _ => 0))), ((u8 3), .inl (gtc g 0, 6, .inl (fun _ => 0))), ((u8 4), .inl (gtc g 0, 6, .inl (fun _ => 0))), ((u8 5), .inl (gtc g 0, 6, .inl (fun _ => 0))), ((u8 6), .inl (gtc g 0, 6, .inl (fun _ => 0))), ((u8 7), .inl (gtc g 0, 24, .inl (fun _ => 0))), ((u8 8), .inl (gtc g 0, 24, .inl (fun _ => 0)))]) rfl ?_
  refine c_aload F dX7_init_48 rfl 0 rfl ?_
  refine c_new F ciX2 (fs := fz2) m159 m73 m5 fz2_ok (by decide) (by decide) dX7_init_49 (fun q9 => ?_)
  refine c_ws (ws' := [(a0, .inr (7, [.ref (u2 0), .ref (u4 0), .ref (u6 0), .ref (u8 0), .null, .null, .null, .null, .null, .int 0, .int 0])), ((u2 0), .inr (5, [.ref (u2 1), .ref (u2 2), .ref (u2 3)])), ((u2 1), .inl (gtc g 0, 8, .inl (fun _ => 0))), ((u2 2), .inl (gtc g 0, 8, .inl (neg8))), ((u2 3), .inl (gtc g 0, 320, .inl (fun _ => 0))), ((u4 0), .inr (6, [.ref (u4 1), .int 0, .int 0, .int 0, .int 0])), ((u4 1), .inl (gtc g 1, 500, .inl (fun _ => 0))), ((u6 0), .inr (4, [.ref (u6 1), .int 0])), ((u6 1), .inr (2, [.int 0, .int 0, .int 0, .int 0, .int 0, .int 0, .int 0, .ref (u6 2), .ref (u6 3), .ref (u6 4), .ref (u6 5), .ref (u6 6), .ref (u6 7), .ref (u6 8), .ref (u6 9)])), ((u6 2), .inl (gtc g 0, 12, .inl (fun _ => 0))), ((u6 3), .inl (gtc g 0, 12, .inl (fun _ => 0))), ((u6 4), .inl (gtc g 0, 6, .inl (fun _ => 0))), ((u6 5), .inl (gtc g 0, 6, .inl (fun _ => 0))), ((u6 6), .inl (gtc g 0, 6, .inl (fun _ => 0))), ((u6 7), .inl (gtc g 0, 6, .inl (fun _ => 0))), ((u6 8), .inl (gtc g 0, 24, .inl (fun _ => 0))), ((u6 9), .inl (gtc g 0, 24, .inl (fun _ => 0))), ((u8 0), .inr (2, [.int 0, .int 0, .int 0, .int 0, .int 0, .int 0, .int 0, .ref (u8 1), .ref (u8 2), .ref (u8 3), .ref (u8 4), .ref (u8 5), .ref (u8 6), .ref (u8 7), .ref (u8 8)])), ((u8 1), .inl (gtc g 0, 12, .inl (fun _ => 0))), ((u8 2), .inl (gtc g 0, 12, .inl (fun _ => 0))), ((u8 3), .inl (gtc g 0, 6, .inl (fun _ => 0))), ((u8 4), .inl (gtc g 0, 6, .inl (fun _ => 0))), ((u8 5), .inl (gtc g 0, 6, .inl (fun _ => 0))), ((u8 6), .inl (gtc g 0, 6, .inl (fun _ => 0))), ((u8 7), .inl (gtc g 0, 24, .inl (fun _ => 0))), ((u8 8), .inl (gtc g 0, 24, .inl (fun _ => 0))), (q9, .inr (2, [.int 0, .int 0, .int 0, .int 0, .int 0, .int 0, .int 0, .null, .null, .null, .null, .null, .null, .null, .null]))]) rfl ?_
  refine c_dup F dX7_init_52 rfl ?_
  refine c_call F (cc_X2 z.2.1 g) m75 m5 m76 (Or.inl (List.mem_of_getElem? (i := 9) rfl)) rfl ⟨by decide +kernel, by decide +kernel, by decide +kernel⟩ (by decide) (by decide) (by decide) (by decide) rfl (Nat.le_of_ble_eq_true rfl) dX7_init_53 (fun u10 e_u10 => ?_)
  refine c_ws (ws' := [(a0, .inr (7, [.ref (u2 0), .ref (u4 0), .ref (u6 0), .ref (u8 0), .null, .null, .null, .null, .null, .int 0, .int 0])), ((u2 0), .inr (5, [.ref (u2 1), .ref (u2 2), .ref (u2 3)])), ((u2 1), .inl (gtc g 0, 8, .inl (fun _ => 0))), ((u2 2), .inl (gtc g 0, 8, .inl (neg8))), ((u2 3), .inl (gtc g 0, 320, .inl (fun _ => 0))), ((u4 0), .inr (6, [.ref (u4 1), .int 0, .int 0, .int 0, .int 0])), ((u4 1), .inl (gtc g 1, 500, .inl (fun _ => 0))), ((u6 0), .inr (4, [.ref (u6 1), .int 0])), ((u6 1), .inr (2, [.int 0, .int 0, .int 0, .int 0, .int 0, .int 0, .int 0, .ref (u6 2), .ref (u6 3), .ref (u6 4), .ref (u6 5), .ref (u6 6), .ref (u6 7), .ref (u6 8), .ref (u6 9)])), ((u6 2), .inl (gtc g 0, 12, .inl (fun _ => 0))), ((u6 3), .inl (gtc g 0, 12, .inl (fun _ => 0))), ((u6 4), .inl (gtc g 0, 6, .inl (fun _ => 0))), ((u6 5), .inl (gtc g 0, 6, .inl (fun _ => 0))), ((u6 6), .inl (gtc g 0, 6, .inl (fun _ => 0))), ((u6 7), .inl (gtc g 0, 6, .inl (fun _ => 0))), ((u6 8), .inl (gtc g 0, 24, .inl (fun _ => 0))), ((u6 9), .inl (gtc g 0, 24, .inl (fun _ => 0))), ((u8 0), .inr (2, [.int 0, .int 0, .int 0, .int 0, .int 0, .int 0, .int 0, .ref (u8 1), .ref (u8 2), .ref (u8 3), .ref (u8 4), .ref (u8 5), .ref (u8 6), .ref (u8 7), .ref (u8 8)])), ((u8 1), .inl (gtc g 0, 12, .inl (fun _ => 0))), ((u8 2), .inl (gtc g 0, 12, .inl (fun _ => 0))), ((u8 3), .inl (gtc g 0, 6, .inl (fun _ => 0))), ((u8 4), .inl (gtc g 0, 6, .inl (fun _ => 0))), ((u8 5), .inl (gtc g 0, 6, .inl (fun _ => 0))), ((u8 6), .inl (gtc g 0, 6, .inl (fun _ => 0))), ((u8 7), .inl (gtc g 0, 24, .inl (fun _ => 0))), ((u8 8), .inl (gtc g 0, 24, .inl (fun _ => 0))), ((u10 0), .inr (2, [.int 0, .int 0, .int 0, .int 0, .int 0, .int 0, .int 0, .ref (u10 1), .ref (u10 2), .ref (u10 3), .ref (u10 4), .ref (u10 5), .ref (u10 6), .ref (u10 7), .ref (u10 8)])), ((u10 1), .inl (gtc g 0, 12, .inl (fun _ => 0))), ((u10 2), .inl (gtc g 0, 12, .inl (fun _ => 0))), ((u10 3), .inl (gtc g 0, 6, .inl (fun _ => 0))), ((u10 4), .inl (gtc g 0, 6, .inl (fun _ => 0))), ((u10 5), .inl (gtc g 0, 6, .inl (fun _ => 0))), ((u10 6), .inl (gtc g 0, 6, .inl (fun _ => 0))), ((u10 7), .inl (gtc g 0, 24, .inl (fun _ => 0))), ((u10 8), .inl (gtc g 0, 24, .inl (fun _ => 0)))]) rfl ?_
  rw [← e_u10]
  refine c_putF F ciX7 0 4 (tt := .object "ArchTrades$Bridge") rfl (by decide) rfl rfl rfl rfl rfl rfl (Nat.le_of_ble_eq_true rfl) m243 dX7_init_56 ?_
  refine c_ws (ws' := [(a0, .inr (7, [.ref (u2 0), .ref (u4 0), .ref (u6 0), .ref (u8 0), .ref (u10 0), .null, .null, .null, .null, .int 0, .int 0])), ((u2 0), .inr (5, [.ref (u2 1), .ref (u2 2), .ref (u2 3)])), ((u2 1), .inl (gtc g 0, 8, .inl (fun _ => 0))), ((u2 2), .inl (gtc g 0, 8, .inl (neg8))), ((u2 3), .inl (gtc g 0, 320, .inl (fun _ => 0))), ((u4 0), .inr (6, [.ref (u4 1), .int 0, .int 0, .int 0, .int 0])), ((u4 1), .inl (gtc g 1, 500, .inl (fun _ => 0))), ((u6 0), .inr (4, [.ref (u6 1), .int 0])), ((u6 1), .inr (2, [.int 0, .int 0, .int 0, .int 0, .int 0, .int 0, .int 0, .ref (u6 2), .ref (u6 3), .ref (u6 4), .ref (u6 5), .ref (u6 6), .ref (u6 7), .ref (u6 8), .ref (u6 9)])), ((u6 2), .inl (gtc g 0, 12, .inl (fun _ => 0))), ((u6 3), .inl (gtc g 0, 12, .inl (fun _ => 0))), ((u6 4), .inl (gtc g 0, 6, .inl (fun _ => 0))), ((u6 5), .inl (gtc g 0, 6, .inl (fun _ => 0))), ((u6 6), .inl (gtc g 0, 6, .inl (fun _ => 0))), ((u6 7), .inl (gtc g 0, 6, .inl (fun _ => 0))), ((u6 8), .inl (gtc g 0, 24, .inl (fun _ => 0))), ((u6 9), .inl (gtc g 0, 24, .inl (fun _ => 0))), ((u8 0), .inr (2, [.int 0, .int 0, .int 0, .int 0, .int 0, .int 0, .int 0, .ref (u8 1), .ref (u8 2), .ref (u8 3), .ref (u8 4), .ref (u8 5), .ref (u8 6), .ref (u8 7), .ref (u8 8)])), ((u8 1), .inl (gtc g 0, 12, .inl (fun _ => 0))), ((u8 2), .inl (gtc g 0, 12, .inl (fun _ => 0))), ((u8 3), .inl (gtc g 0, 6, .inl (fun _ => 0))), ((u8 4), .inl (gtc g 0, 6, .inl (fun _ => 0))), ((u8 5), .inl (gtc g 0, 6, .inl (fun _ => 0))), ((u8 6), .inl (gtc g 0, 6, .inl (fun _ => 0))), ((u8 7), .inl (gtc g 0, 24, .inl (fun _ => 0))), ((u8 8), .inl (gtc g 0, 24, .inl (fun _ => 0))), ((u10 0), .inr (2, [.int 0, .int 0, .int 0, .int 0, .int 0, .int 0, .int 0, .ref (u10 1), .ref (u10 2), .ref (u10 3), .ref (u10 4), .ref (u10 5), .ref (u10 6), .ref (u10 7), .ref (u10 8)])), ((u10 1), .inl (gtc g 0, 12, .inl (fun _ => 0))), ((u10 2), .inl (gtc g 0, 12, .inl (fun _ => 0))), ((u10 3), .inl (gtc g 0, 6, .inl (fun _ => 0))), ((u10 4), .inl (gtc g 0, 6, .inl (fun _ => 0))), ((u10 5), .inl (gtc g 0, 6, .inl (fun _ => 0))), ((u10 6), .inl (gtc g 0, 6, .inl (fun _ => 0))), ((u10 7), .inl (gtc g 0, 24, .inl (fun _ => 0))), ((u10 8), .inl (gtc g 0, 24, .inl (fun _ => 0)))]) rfl ?_
  refine c_aload F dX7_init_59 rfl 0 rfl ?_
  refine c_new F ciX2 (fs := fz2) m159 m73 m5 fz2_ok (by decide) (by decide) dX7_init_60 (fun q11 => ?_)
  refine c_ws (ws' := [(a0, .inr (7, [.ref (u2 0), .ref (u4 0), .ref (u6 0), .ref (u8 0), .ref (u10 0), .null, .null, .null, .null, .int 0, .int 0])), ((u2 0), .inr (5, [.ref (u2 1), .ref (u2 2), .ref (u2 3)])), ((u2 1), .inl (gtc g 0, 8, .inl (fun _ => 0))), ((u2 2), .inl (gtc g 0, 8, .inl (neg8))), ((u2 3), .inl (gtc g 0, 320, .inl (fun _ => 0))), ((u4 0), .inr (6, [.ref (u4 1), .int 0, .int 0, .int 0, .int 0])), ((u4 1), .inl (gtc g 1, 500, .inl (fun _ => 0))), ((u6 0), .inr (4, [.ref (u6 1), .int 0])), ((u6 1), .inr (2, [.int 0, .int 0, .int 0, .int 0, .int 0, .int 0, .int 0, .ref (u6 2), .ref (u6 3), .ref (u6 4), .ref (u6 5), .ref (u6 6), .ref (u6 7), .ref (u6 8), .ref (u6 9)])), ((u6 2), .inl (gtc g 0, 12, .inl (fun _ => 0))), ((u6 3), .inl (gtc g 0, 12, .inl (fun _ => 0))), ((u6 4), .inl (gtc g 0, 6, .inl (fun _ => 0))), ((u6 5), .inl (gtc g 0, 6, .inl (fun _ => 0))), ((u6 6), .inl (gtc g 0, 6, .inl (fun _ => 0))), ((u6 7), .inl (gtc g 0, 6, .inl (fun _ => 0))), ((u6 8), .inl (gtc g 0, 24, .inl (fun _ => 0))), ((u6 9), .inl (gtc g 0, 24, .inl (fun _ => 0))), ((u8 0), .inr (2, [.int 0, .int 0, .int 0, .int 0, .int 0, .int 0, .int 0, .ref (u8 1), .ref (u8 2), .ref (u8 3), .ref (u8 4), .ref (u8 5), .ref (u8 6), .ref (u8 7), .ref (u8 8)])), ((u8 1), .inl (gtc g 0, 12, .inl (fun _ => 0))), ((u8 2), .inl (gtc g 0, 12, .inl (fun _ => 0))), ((u8 3), .inl (gtc g 0, 6, .inl (fun _ => 0))), ((u8 4), .inl (gtc g 0, 6, .inl (fun _ => 0))), ((u8 5), .inl (gtc g 0, 6, .inl (fun _ => 0))), ((u8 6), .inl (gtc g 0, 6, .inl (fun _ => 0))), ((u8 7), .inl (gtc g 0, 24, .inl (fun _ => 0))), ((u8 8), .inl (gtc g 0, 24, .inl (fun _ => 0))), ((u10 0), .inr (2, [.int 0, .int 0, .int 0, .int 0, .int 0, .int 0, .int 0, .ref (u10 1), .ref (u10 2), .ref (u10 3), .ref (u10 4), .ref (u10 5), .ref (u10 6), .ref (u10 7), .ref (u10 8)])), ((u10 1), .inl (gtc g 0, 12, .inl (fun _ => 0))), ((u10 2), .inl (gtc g 0, 12, .inl (fun _ => 0))), ((u10 3), .inl (gtc g 0, 6, .inl (fun _ => 0))), ((u10 4), .inl (gtc g 0, 6, .inl (fun _ => 0))), ((u10 5), .inl (gtc g 0, 6, .inl (fun _ => 0))), ((u10 6), .inl (gtc g 0, 6, .inl (fun _ => 0))), ((u10 7), .inl (gtc g 0, 24, .inl (fun _ => 0))), ((u10 8), .inl (gtc g 0, 24, .inl (fun _ => 0))), (q11, .inr (2, [.int 0, .int 0, .int 0, .int 0, .int 0, .int 0, .int 0, .null, .null, .null, .null, .null, .null, .null, .null]))]) rfl ?_
  refine c_dup F dX7_init_63 rfl ?_
  refine c_call F (cc_X2 z.2.1 g) m75 m5 m76 (Or.inl (List.mem_of_getElem? (i := 9) rfl)) rfl ⟨by decide +kernel, by decide +kernel, by decide +kernel⟩ (by decide) (by decide) (by decide) (by decide) rfl (Nat.le_of_ble_eq_true rfl) dX7_init_64 (fun u12 e_u12 => ?_)
  refine c_ws (ws' := [(a0, .inr (7, [.ref (u2 0), .ref (u4 0), .ref (u6 0), .ref (u8 0), .ref (u10 0), .null, .null, .null, .null, .int 0, .int 0])), ((u2 0), .inr (5, [.ref (u2 1), .ref (u2 2), .ref (u2 3)])), ((u2 1), .inl (gtc g 0, 8, .inl (fun _ => 0))), ((u2 2), .inl (gtc g 0, 8, .inl (neg8))), ((u2 3), .inl (gtc g 0, 320, .inl (fun _ => 0))), ((u4 0), .inr (6, [.ref (u4 1), .int 0, .int 0, .int 0, .int 0])), ((u4 1), .inl (gtc g 1, 500, .inl (fun _ => 0))), ((u6 0), .inr (4, [.ref (u6 1), .int 0])), ((u6 1), .inr (2, [.int 0, .int 0, .int 0, .int 0, .int 0, .int 0, .int 0, .ref (u6 2), .ref (u6 3), .ref (u6 4), .ref (u6 5), .ref (u6 6), .ref (u6 7), .ref (u6 8), .ref (u6 9)])), ((u6 2), .inl (gtc g 0, 12, .inl (fun _ => 0))), ((u6 3), .inl (gtc g 0, 12, .inl (fun _ => 0))), ((u6 4), .inl (gtc g 0, 6, .inl (fun _ => 0))), ((u6 5), .inl (gtc g 0, 6, .inl (fun _ => 0))), ((u6 6), .inl (gtc g 0, 6, .inl (fun _ => 0))), ((u6 7), .inl (gtc g 0, 6, .inl (fun _ => 0))), ((u6 8), .inl (gtc g 0, 24, .inl (fun _ => 0))), ((u6 9), .inl (gtc g 0, 24, .inl (fun _ => 0))), ((u8 0), .inr (2, [.int 0, .int 0, .int 0, .int 0, .int 0, .int 0, .int 0, .ref (u8 1), .ref (u8 2), .ref (u8 3), .ref (u8 4), .ref (u8 5), .ref (u8 6), .ref (u8 7), .ref (u8 8)])), ((u8 1), .inl (gtc g 0, 12, .inl (fun _ => 0))), ((u8 2), .inl (gtc g 0, 12, .inl (fun _ => 0))), ((u8 3), .inl (gtc g 0, 6, .inl (fun _ => 0))), ((u8 4), .inl (gtc g 0, 6, .inl (fun _ => 0))), ((u8 5), .inl (gtc g 0, 6, .inl (fun _ => 0))), ((u8 6), .inl (gtc g 0, 6, .inl (fun _ => 0))), ((u8 7), .inl (gtc g 0, 24, .inl (fun _ => 0))), ((u8 8), .inl (gtc g 0, 24, .inl (fun _ => 0))), ((u10 0), .inr (2, [.int 0, .int 0, .int 0, .int 0, .int 0, .int 0, .int 0, .ref (u10 1), .ref (u10 2), .ref (u10 3), .ref (u10 4), .ref (u10 5), .ref (u10 6), .ref (u10 7), .ref (u10 8)])), ((u10 1), .inl (gtc g 0, 12, .inl (fun _ => 0))), ((u10 2), .inl (gtc g 0, 12, .inl (fun _ => 0))), ((u10 3), .inl (gtc g 0, 6, .inl (fun _ => 0))), ((u10 4), .inl (gtc g 0, 6, .inl (fun _ => 0))), ((u10 5), .inl (gtc g 0, 6, .inl (fun _ => 0))), ((u10 6), .inl (gtc g 0, 6, .inl (fun _ => 0))), ((u10 7), .inl (gtc g 0, 24, .inl (fun _ => 0))), ((u10 8), .inl (gtc g 0, 24, .inl (fun _ => 0))), ((u12 0), .inr (2, [.int 0, .int 0, .int 0, .int 0, .int 0, .int 0, .int 0, .ref (u12 1), .ref (u12 2), .ref (u12 3), .ref (u12 4), .ref (u12 5), .ref (u12 6), .ref (u12 7), .ref (u12 8)])), ((u12 1), .inl (gtc g 0, 12, .inl (fun _ => 0))), ((u12 2), .inl (gtc g 0, 12, .inl (fun _ => 0))), ((u12 3), .inl (gtc g 0, 6, .inl (fun _ => 0))), ((u12 4), .inl (gtc g 0, 6, .inl (fun _ => 0))), ((u12 5), .inl (gtc g 0, 6, .inl (fun _ => 0))), ((u12 6), .inl (gtc g 0, 6, .inl (fun _ => 0))), ((u12 7), .inl (gtc g 0, 24, .inl (fun _ => 0))), ((u12 8), .inl (gtc g 0, 24, .inl (fun _ => 0)))]) rfl ?_
  rw [← e_u12]
  refine c_putF F ciX7 0 5 (tt := .object "ArchTrades$Bridge") rfl (by decide) rfl rfl rfl rfl rfl rfl (Nat.le_of_ble_eq_true rfl) m244 dX7_init_67 ?_
  refine c_ws (ws' := [(a0, .inr (7, [.ref (u2 0), .ref (u4 0), .ref (u6 0), .ref (u8 0), .ref (u10 0), .ref (u12 0), .null, .null, .null, .int 0, .int 0])), ((u2 0), .inr (5, [.ref (u2 1), .ref (u2 2), .ref (u2 3)])), ((u2 1), .inl (gtc g 0, 8, .inl (fun _ => 0))), ((u2 2), .inl (gtc g 0, 8, .inl (neg8))), ((u2 3), .inl (gtc g 0, 320, .inl (fun _ => 0))), ((u4 0), .inr (6, [.ref (u4 1), .int 0, .int 0, .int 0, .int 0])), ((u4 1), .inl (gtc g 1, 500, .inl (fun _ => 0))), ((u6 0), .inr (4, [.ref (u6 1), .int 0])), ((u6 1), .inr (2, [.int 0, .int 0, .int 0, .int 0, .int 0, .int 0, .int 0, .ref (u6 2), .ref (u6 3), .ref (u6 4), .ref (u6 5), .ref (u6 6), .ref (u6 7), .ref (u6 8), .ref (u6 9)])), ((u6 2), .inl (gtc g 0, 12, .inl (fun _ => 0))), ((u6 3), .inl (gtc g 0, 12, .inl (fun _ => 0))), ((u6 4), .inl (gtc g 0, 6, .inl (fun _ => 0))), ((u6 5), .inl (gtc g 0, 6, .inl (fun _ => 0))), ((u6 6), .inl (gtc g 0, 6, .inl (fun _ => 0))), ((u6 7), .inl (gtc g 0, 6, .inl (fun _ => 0))), ((u6 8), .inl (gtc g 0, 24, .inl (fun _ => 0))), ((u6 9), .inl (gtc g 0, 24, .inl (fun _ => 0))), ((u8 0), .inr (2, [.int 0, .int 0, .int 0, .int 0, .int 0, .int 0, .int 0, .ref (u8 1), .ref (u8 2), .ref (u8 3), .ref (u8 4), .ref (u8 5), .ref (u8 6), .ref (u8 7), .ref (u8 8)])), ((u8 1), .inl (gtc g 0, 12, .inl (fun _ => 0))), ((u8 2), .inl (gtc g 0, 12, .inl (fun _ => 0))), ((u8 3), .inl (gtc g 0, 6, .inl (fun _ => 0))), ((u8 4), .inl (gtc g 0, 6, .inl (fun _ => 0))), ((u8 5), .inl (gtc g 0, 6, .inl (fun _ => 0))), ((u8 6), .inl (gtc g 0, 6, .inl (fun _ => 0))), ((u8 7), .inl (gtc g 0, 24, .inl (fun _ => 0))), ((u8 8), .inl (gtc g 0, 24, .inl (fun _ => 0))), ((u10 0), .inr (2, [.int 0, .int 0, .int 0, .int 0, .int 0, .int 0, .int 0, .ref (u10 1), .ref (u10 2), .ref (u10 3), .ref (u10 4), .ref (u10 5), .ref (u10 6), .ref (u10 7), .ref (u10 8)])), ((u10 1), .inl (gtc g 0, 12, .inl (fun _ => 0))), ((u10 2), .inl (gtc g 0, 12, .inl (fun _ => 0))), ((u10 3), .inl (gtc g 0, 6, .inl (fun _ => 0))), ((u10 4), .inl (gtc g 0, 6, .inl (fun _ => 0))), ((u10 5), .inl (gtc g 0, 6, .inl (fun _ => 0))), ((u10 6), .inl (gtc g 0, 6, .inl (fun _ => 0))), ((u10 7), .inl (gtc g 0, 24, .inl (fun _ => 0))), ((u10 8), .inl (gtc g 0, 24, .inl (fun _ => 0))), ((u12 0), .inr (2, [.int 0, .int 0, .int 0, .int 0, .int 0, .int 0, .int 0, .ref (u12 1), .ref (u12 2), .ref (u12 3), .ref (u12 4), .ref (u12 5), .ref (u12 6), .ref (u12 7), .ref (u12 8)])), ((u12 1), .inl (gtc g 0, 12, .inl (fun _ => 0))), ((u12 2), .inl (gtc g 0, 12, .inl (fun _ => 0))), ((u12 3), .inl (gtc g 0, 6, .inl (fun _ => 0))), ((u12 4), .inl (gtc g 0, 6, .inl (fun _ => 0))), ((u12 5), .inl (gtc g 0, 6, .inl (fun _ => 0))), ((u12 6), .inl (gtc g 0, 6, .inl (fun _ => 0))), ((u12 7), .inl (gtc g 0, 24, .inl (fun _ => 0))), ((u12 8), .inl (gtc g 0, 24, .inl (fun _ => 0)))]) rfl ?_
  refine c_aload F dX7_init_70 rfl 0 rfl ?_
  refine c_new F ciX0 (fs := fz0) m161 m162 m6 fz0_ok (by decide) (by decide) dX7_init_71 (fun q13 => ?_)
  refine c_ws (ws' := [(a0, .inr (7, [.ref (u2 0), .ref (u4 0), .ref (u6 0), .ref (u8 0), .ref (u10 0), .ref (u12 0), .null, .null, .null, .int 0, .int 0])), ((u2 0), .inr (5, [.ref (u2 1), .ref (u2 2), .ref (u2 3)])), ((u2 1), .inl (gtc g 0, 8, .inl (fun _ => 0))), ((u2 2), .inl (gtc g 0, 8, .inl (neg8))), ((u2 3), .inl (gtc g 0, 320, .inl (fun _ => 0))), ((u4 0), .inr (6, [.ref (u4 1), .int 0, .int 0, .int 0, .int 0])), ((u4 1), .inl (gtc g 1, 500, .inl (fun _ => 0))), ((u6 0), .inr (4, [.ref (u6 1), .int 0])), ((u6 1), .inr (2, [.int 0, .int 0, .int 0, .int 0, .int 0, .int 0, .int 0, .ref (u6 2), .ref (u6 3), .ref (u6 4), .ref (u6 5), .ref (u6 6), .ref (u6 7), .ref (u6 8), .ref (u6 9)])), ((u6 2), .inl (gtc g 0, 12, .inl (fun _ => 0))), ((u6 3), .inl (gtc g 0, 12, .inl (fun _ => 0))), ((u6 4), .inl (gtc g 0, 6, .inl (fun _ => 0))), ((u6 5), .inl (gtc g 0, 6, .inl (fun _ => 0))), ((u6 6), .inl (gtc g 0, 6, .inl (fun _ => 0))), ((u6 7), .inl (gtc g 0, 6, .inl (fun _ => 0))), ((u6 8), .inl (gtc g 0, 24, .inl (fun _ => 0))), ((u6 9), .inl (gtc g 0, 24, .inl (fun _ => 0))), ((u8 0), .inr (2, [.int 0, .int 0, .int 0, .int 0, .int 0, .int 0, .int 0, .ref (u8 1), .ref (u8 2), .ref (u8 3), .ref (u8 4), .ref (u8 5), .ref (u8 6), .ref (u8 7), .ref (u8 8)])), ((u8 1), .inl (gtc g 0, 12, .inl (fun _ => 0))), ((u8 2), .inl (gtc g 0, 12, .inl (fun _ => 0))), ((u8 3), .inl (gtc g 0, 6, .inl (fun _ => 0))), ((u8 4), .inl (gtc g 0, 6, .inl (fun _ => 0))), ((u8 5), .inl (gtc g 0, 6, .inl (fun _ => 0))), ((u8 6), .inl (gtc g 0, 6, .inl (fun _ => 0))), ((u8 7), .inl (gtc g 0, 24, .inl (fun _ => 0))), ((u8 8), .inl (gtc g 0, 24, .inl (fun _ => 0))), ((u10 0), .inr (2, [.int 0, .int 0, .int 0, .int 0, .int 0, .int 0, .int 0, .ref (u10 1), .ref (u10 2), .ref (u10 3), .ref (u10 4), .ref (u10 5), .ref (u10 6), .ref (u10 7), .ref (u10 8)])), ((u10 1), .inl (gtc g 0, 12, .inl (fun _ => 0))), ((u10 2), .inl (gtc g 0, 12, .inl (fun _ => 0))), ((u10 3), .inl (gtc g 0, 6, .inl (fun _ => 0))), ((u10 4), .inl (gtc g 0, 6, .inl (fun _ => 0))), ((u10 5), .inl (gtc g 0, 6, .inl (fun _ => 0))), ((u10 6), .inl (gtc g 0, 6, .inl (fun _ => 0))), ((u10 7), .inl (gtc g 0, 24, .inl (fun _ => 0))), ((u10 8), .inl (gtc g 0, 24, .inl (fun _ => 0))), ((u12 0), .inr (2, [.int 0, .int 0, .int 0, .int 0, .int 0, .int 0, .int 0, .ref (u12 1), .ref (u12 2), .ref (u12 3), .ref (u12 4), .ref (u12 5), .ref (u12 6), .ref (u12 7), .ref (u12 8)])), ((u12 1), .inl (gtc g 0, 12, .inl (fun _ => 0))), ((u12 2), .inl (gtc g 0, 12, .inl (fun _ => 0))), ((u12 3), .inl (gtc g 0, 6, .inl (fun _ => 0))), ((u12 4), .inl (gtc g 0, 6, .inl (fun _ => 0))), ((u12 5), .inl (gtc g 0, 6, .inl (fun _ => 0))), ((u12 6), .inl (gtc g 0, 6, .inl (fun _ => 0))), ((u12 7), .inl (gtc g 0, 24, .inl (fun _ => 0))), ((u12 8), .inl (gtc g 0, 24, .inl (fun _ => 0))), (q13, .inr (0, [.null, .null, .null, .null, .int 0, .int 0]))]) rfl ?_
  refine c_dup F dX7_init_74 rfl ?_
  refine c_call F (cc_X0 z.2.1 g) m164 m6 m165 (Or.inl (List.mem_of_getElem? (i := 10) rfl)) rfl ⟨by decide +kernel, by decide +kernel, by decide +kernel⟩ (by decide) (by decide) (by decide) (by decide) rfl (Nat.le_of_ble_eq_true rfl) dX7_init_75 (fun u14 e_u14 => ?_)
  refine c_ws (ws' := [(a0, .inr (7, [.ref (u2 0), .ref (u4 0), .ref (u6 0), .ref (u8 0), .ref (u10 0), .ref (u12 0), .null, .null, .null, .int 0, .int 0])), ((u2 0), .inr (5, [.ref (u2 1), .ref (u2 2), .ref (u2 3)])), ((u2 1), .inl (gtc g 0, 8, .inl (fun _ => 0))), ((u2 2), .inl (gtc g 0, 8, .inl (neg8))), ((u2 3), .inl (gtc g 0, 320, .inl (fun _ => 0))), ((u4 0), .inr (6, [.ref (u4 1), .int 0, .int 0, .int 0, .int 0])), ((u4 1), .inl (gtc g 1, 500, .inl (fun _ => 0))), ((u6 0), .inr (4, [.ref (u6 1), .int 0])), ((u6 1), .inr (2, [.int 0, .int 0, .int 0, .int 0, .int 0, .int 0, .int 0, .ref (u6 2), .ref (u6 3), .ref (u6 4), .ref (u6 5), .ref (u6 6), .ref (u6 7), .ref (u6 8), .ref (u6 9)])), ((u6 2), .inl (gtc g 0, 12, .inl (fun _ => 0))), ((u6 3), .inl (gtc g 0, 12, .inl (fun _ => 0))), ((u6 4), .inl (gtc g 0, 6, .inl (fun _ => 0))), ((u6 5), .inl (gtc g 0, 6, .inl (fun _ => 0))), ((u6 6), .inl (gtc g 0, 6, .inl (fun _ => 0))), ((u6 7), .inl (gtc g 0, 6, .inl (fun _ => 0))), ((u6 8), .inl (gtc g 0, 24, .inl (fun _ => 0))), ((u6 9), .inl (gtc g 0, 24, .inl (fun _ => 0))), ((u8 0), .inr (2, [.int 0, .int 0, .int 0, .int 0, .int 0, .int 0, .int 0, .ref (u8 1), .ref (u8 2), .ref (u8 3), .ref (u8 4), .ref (u8 5), .ref (u8 6), .ref (u8 7), .ref (u8 8)])), ((u8 1), .inl (gtc g 0, 12, .inl (fun _ => 0))), ((u8 2), .inl (gtc g 0, 12, .inl (fun _ => 0))), ((u8 3), .inl (gtc g 0, 6, .inl (fun _ => 0))), ((u8 4), .inl (gtc g 0, 6, .inl (fun _ => 0))), ((u8 5), .inl (gtc g 0, 6, .inl (fun _ => 0))), ((u8 6), .inl (gtc g 0, 6, .inl (fun _ => 0))), ((u8 7), .inl (gtc g 0, 24, .inl (fun _ => 0))), ((u8 8), .inl (gtc g 0, 24, .inl (fun _ => 0))), ((u10 0), .inr (2, [.int 0, .int 0, .int 0, .int 0, .int 0, .int 0, .int 0, .ref (u10 1), .ref (u10 2), .ref (u10 3), .ref (u10 4), .ref (u10 5), .ref (u10 6), .ref (u10 7), .ref (u10 8)])), ((u10 1), .inl (gtc g 0, 12, .inl (fun _ => 0))), ((u10 2), .inl (gtc g 0, 12, .inl (fun _ => 0))), ((u10 3), .inl (gtc g 0, 6, .inl (fun _ => 0))), ((u10 4), .inl (gtc g 0, 6, .inl (fun _ => 0))), ((u10 5), .inl (gtc g 0, 6, .inl (fun _ => 0))), ((u10 6), .inl (gtc g 0, 6, .inl (fun _ => 0))), ((u10 7), .inl (gtc g 0, 24, .inl (fun _ => 0))), ((u10 8), .inl (gtc g 0, 24, .inl (fun _ => 0))), ((u12 0), .inr (2, [.int 0, .int 0, .int 0, .int 0, .int 0, .int 0, .int 0, .ref (u12 1), .ref (u12 2), .ref (u12 3), .ref (u12 4), .ref (u12 5), .ref (u12 6), .ref (u12 7), .ref (u12 8)])), ((u12 1), .inl (gtc g 0, 12, .inl (fun _ => 0))), ((u12 2), .inl (gtc g 0, 12, .inl (fun _ => 0))), ((u12 3), .inl (gtc g 0, 6, .inl (fun _ => 0))), ((u12 4), .inl (gtc g 0, 6, .inl (fun _ => 0))), ((u12 5), .inl (gtc g 0, 6, .inl (fun _ => 0))), ((u12 6), .inl (gtc g 0, 6, .inl (fun _ => 0))), ((u12 7), .inl (gtc g 0, 24, .inl (fun _ => 0))), ((u12 8), .inl (gtc g 0, 24, .inl (fun _ => 0))), ((u14 0), .inr (0, [.ref (u14 1), .ref (u14 2), .ref (u14 3), .ref (u14 4), .int 0, .int 0])), ((u14 1), .inl (gtc g 0, 24, .inl (fun _ => 0))), ((u14 2), .inl (gtc g 0, 24, .inl (fun _ => 0))), ((u14 3), .inl (gtc g 0, 24, .inl (fun _ => 0))), ((u14 4), .inl (gtc g 0, 24, .inl (fun _ => 0)))]) rfl ?_
  rw [← e_u14]
  refine c_putF F ciX7 0 6 (tt := .object "ArchTrades$Acts") rfl (by decide) rfl rfl rfl rfl rfl rfl (Nat.le_of_ble_eq_true rfl) m245 dX7_init_78 ?_
  refine c_ws (ws' := [(a0, .inr (7, [.ref (u2 0), .ref (u4 0), .ref (u6 0), .ref (u8 0), .ref (u10 0), .ref (u12 0), .ref (u14 0), .null, .null, .int 0, .int 0])), ((u2 0), .inr (5, [.ref (u2 1), .ref (u2 2), .ref (u2 3)])), ((u2 1), .inl (gtc g 0, 8, .inl (fun _ => 0))), ((u2 2), .inl (gtc g 0, 8, .inl (neg8))), ((u2 3), .inl (gtc g 0, 320, .inl (fun _ => 0))), ((u4 0), .inr (6, [.ref (u4 1), .int 0, .int 0, .int 0, .int 0])), ((u4 1), .inl (gtc g 1, 500, .inl (fun _ => 0))), ((u6 0), .inr (4, [.ref (u6 1), .int 0])), ((u6 1), .inr (2, [.int 0, .int 0, .int 0, .int 0, .int 0, .int 0, .int 0, .ref (u6 2), .ref (u6 3), .ref (u6 4), .ref (u6 5), .ref (u6 6), .ref (u6 7), .ref (u6 8), .ref (u6 9)])), ((u6 2), .inl (gtc g 0, 12, .inl (fun _ => 0))), ((u6 3), .inl (gtc g 0, 12, .inl (fun _ => 0))), ((u6 4), .inl (gtc g 0, 6, .inl (fun _ => 0))), ((u6 5), .inl (gtc g 0, 6, .inl (fun _ => 0))), ((u6 6), .inl (gtc g 0, 6, .inl (fun _ => 0))), ((u6 7), .inl (gtc g 0, 6, .inl (fun _ => 0))), ((u6 8), .inl (gtc g 0, 24, .inl (fun _ => 0))), ((u6 9), .inl (gtc g 0, 24, .inl (fun _ => 0))), ((u8 0), .inr (2, [.int 0, .int 0, .int 0, .int 0, .int 0, .int 0, .int 0, .ref (u8 1), .ref (u8 2), .ref (u8 3), .ref (u8 4), .ref (u8 5), .ref (u8 6), .ref (u8 7), .ref (u8 8)])), ((u8 1), .inl (gtc g 0, 12, .inl (fun _ => 0))), ((u8 2), .inl (gtc g 0, 12, .inl (fun _ => 0))), ((u8 3), .inl (gtc g 0, 6, .inl (fun _ => 0))), ((u8 4), .inl (gtc g 0, 6, .inl (fun _ => 0))), ((u8 5), .inl (gtc g 0, 6, .inl (fun _ => 0))), ((u8 6), .inl (gtc g 0, 6, .inl (fun _ => 0))), ((u8 7), .inl (gtc g 0, 24, .inl (fun _ => 0))), ((u8 8), .inl (gtc g 0, 24, .inl (fun _ => 0))), ((u10 0), .inr (2, [.int 0, .int 0, .int 0, .int 0, .int 0, .int 0, .int 0, .ref (u10 1), .ref (u10 2), .ref (u10 3), .ref (u10 4), .ref (u10 5), .ref (u10 6), .ref (u10 7), .ref (u10 8)])), ((u10 1), .inl (gtc g 0, 12, .inl (fun _ => 0))), ((u10 2), .inl (gtc g 0, 12, .inl (fun _ => 0))), ((u10 3), .inl (gtc g 0, 6, .inl (fun _ => 0))), ((u10 4), .inl (gtc g 0, 6, .inl (fun _ => 0))), ((u10 5), .inl (gtc g 0, 6, .inl (fun _ => 0))), ((u10 6), .inl (gtc g 0, 6, .inl (fun _ => 0))), ((u10 7), .inl (gtc g 0, 24, .inl (fun _ => 0))), ((u10 8), .inl (gtc g 0, 24, .inl (fun _ => 0))), ((u12 0), .inr (2, [.int 0, .int 0, .int 0, .int 0, .int 0, .int 0, .int 0, .ref (u12 1), .ref (u12 2), .ref (u12 3), .ref (u12 4), .ref (u12 5), .ref (u12 6), .ref (u12 7), .ref (u12 8)])), ((u12 1), .inl (gtc g 0, 12, .inl (fun _ => 0))), ((u12 2), .inl (gtc g 0, 12, .inl (fun _ => 0))), ((u12 3), .inl (gtc g 0, 6, .inl (fun _ => 0))), ((u12 4), .inl (gtc g 0, 6, .inl (fun _ => 0))), ((u12 5), .inl (gtc g 0, 6, .inl (fun _ => 0))), ((u12 6), .inl (gtc g 0, 6, .inl (fun _ => 0))), ((u12 7), .inl (gtc g 0, 24, .inl (fun _ => 0))), ((u12 8), .inl (gtc g 0, 24, .inl (fun _ => 0))), ((u14 0), .inr (0, [.ref (u14 1), .ref (u14 2), .ref (u14 3), .ref (u14 4), .int 0, .int 0])), ((u14 1), .inl (gtc g 0, 24, .inl (fun _ => 0))), ((u14 2), .inl (gtc g 0, 24, .inl (fun _ => 0))), ((u14 3), .inl (gtc g 0, 24, .inl (fun _ => 0))), ((u14 4), .inl (gtc g 0, 24, .inl (fun _ => 0)))]) rfl ?_
  refine c_aload F dX7_init_81 rfl 0 rfl ?_
  refine c_new F ciX3 (fs := fz3) m186 m187 m7 fz3_ok (by decide) (by decide) dX7_init_82 (fun q15 => ?_)
  refine c_ws (ws' := [(a0, .inr (7, [.ref (u2 0), .ref (u4 0), .ref (u6 0), .ref (u8 0), .ref (u10 0), .ref (u12 0), .ref (u14 0), .null, .null, .int 0, .int 0])), ((u2 0), .inr (5, [.ref (u2 1), .ref (u2 2), .ref (u2 3)])), ((u2 1), .inl (gtc g 0, 8, .inl (fun _ => 0))), ((u2 2), .inl (gtc g 0, 8, .inl (neg8))), ((u2 3), .inl (gtc g 0, 320, .inl (fun _ => 0))), ((u4 0), .inr (6, [.ref (u4 1), .int 0, .int 0, .int 0, .int 0])), ((u4 1), .inl (gtc g 1, 500, .inl (fun _ => 0))), ((u6 0), .inr (4, [.ref (u6 1), .int 0])), ((u6 1), .inr (2, [.int 0, .int 0, .int 0, .int 0, .int 0, .int 0, .int 0, .ref (u6 2), .ref (u6 3), .ref (u6 4), .ref (u6 5), .ref (u6 6), .ref (u6 7), .ref (u6 8), .ref (u6 9)])), ((u6 2), .inl (gtc g 0, 12, .inl (fun _ => 0))), ((u6 3), .inl (gtc g 0, 12, .inl (fun _ => 0))), ((u6 4), .inl (gtc g 0, 6, .inl (fun _ => 0))), ((u6 5), .inl (gtc g 0, 6, .inl (fun _ => 0))), ((u6 6), .inl (gtc g 0, 6, .inl (fun _ => 0))), ((u6 7), .inl (gtc g 0, 6, .inl (fun _ => 0))), ((u6 8), .inl (gtc g 0, 24, .inl (fun _ => 0))), ((u6 9), .inl (gtc g 0, 24, .inl (fun _ => 0))), ((u8 0), .inr (2, [.int 0, .int 0, .int 0, .int 0, .int 0, .int 0, .int 0, .ref (u8 1), .ref (u8 2), .ref (u8 3), .ref (u8 4), .ref (u8 5), .ref (u8 6), .ref (u8 7), .ref (u8 8)])), ((u8 1), .inl (gtc g 0, 12, .inl (fun _ => 0))), ((u8 2), .inl (gtc g 0, 12, .inl (fun _ => 0))), ((u8 3), .inl (gtc g 0, 6, .inl (fun _ => 0))), ((u8 4), .inl (gtc g 0, 6, .inl (fun _ => 0))), ((u8 5), .inl (gtc g 0, 6, .inl (fun _ => 0))), ((u8 6), .inl (gtc g 0, 6, .inl (fun _ => 0))), ((u8 7), .inl (gtc g 0, 24, .inl (fun _ => 0))), ((u8 8), .inl (gtc g 0, 24, .inl (fun _ => 0))), ((u10 0), .inr (2, [.int 0, .int 0, .int 0, .int 0, .int 0, .int 0, .int 0, .ref (u10 1), .ref (u10 2), .ref (u10 3), .ref (u10 4), .ref (u10 5), .ref (u10 6), .ref (u10 7), .ref (u10 8)])), ((u10 1), .inl (gtc g 0, 12, .inl (fun _ => 0))), ((u10 2), .inl (gtc g 0, 12, .inl (fun _ => 0))), ((u10 3), .inl (gtc g 0, 6, .inl (fun _ => 0))), ((u10 4), .inl (gtc g 0, 6, .inl (fun _ => 0))), ((u10 5), .inl (gtc g 0, 6, .inl (fun _ => 0))), ((u10 6), .inl (gtc g 0, 6, .inl (fun _ => 0))), ((u10 7), .inl (gtc g 0, 24, .inl (fun _ => 0))), ((u10 8), .inl (gtc g 0, 24, .inl (fun _ => 0))), ((u12 0), .inr (2, [.int 0, .int 0, .int 0, .int 0, .int 0, .int 0, .int 0, .ref (u12 1), .ref (u12 2), .ref (u12 3), .ref (u12 4), .ref (u12 5), .ref (u12 6), .ref (u12 7), .ref (u12 8)])), ((u12 1), .inl (gtc g 0, 12, .inl (fun _ => 0))), ((u12 2), .inl (gtc g 0, 12, .inl (fun _ => 0))), ((u12 3), .inl (gtc g 0, 6, .inl (fun _ => 0))), ((u12 4), .inl (gtc g 0, 6, .inl (fun _ => 0))), ((u12 5), .inl (gtc g 0, 6, .inl (fun _ => 0))), ((u12 6), .inl (gtc g 0, 6, .inl (fun _ => 0))), ((u12 7), .inl (gtc g 0, 24, .inl (fun _ => 0))), ((u12 8), .inl (gtc g 0, 24, .inl (fun _ => 0))), ((u14 0), .inr (0, [.ref (u14 1), .ref (u14 2), .ref (u14 3), .ref (u14 4), .int 0, .int 0])), ((u14 1), .inl (gtc g 0, 24, .inl (fun _ => 0))), ((u14 2), .inl (gtc g 0, 24, .inl (fun _ => 0))), ((u14 3), .inl (gtc g 0, 24, .inl (fun _ => 0))), ((u14 4), .inl (gtc g 0, 24, .inl (fun _ => 0))), (q15, .inr (3, [.null, .null, .null, .null, .null, .null, .null, .null, .int 0, .int 0, .int 0]))]) rfl ?_
  refine c_dup F dX7_init_85 rfl ?_
  refine c_call F (cc_X3 z.2.1 g) m189 m7 m190 (Or.inl (List.mem_of_getElem? (i := 11) rfl)) rfl ⟨by decide +kernel, by decide +kernel, by decide +kernel⟩ (by decide) (by decide) (by decide) (by decide) rfl (Nat.le_of_ble_eq_true rfl) dX7_init_86 (fun u16 e_u16 => ?_)
  refine c_ws (ws' := [(a0, .inr (7, [.ref (u2 0), .ref (u4 0), .ref (u6 0), .ref (u8 0), .ref (u10 0), .ref (u12 0), .ref (u14 0), .null, .null, .int 0, .int 0])), ((u2 0), .inr (5, [.ref (u2 1), .ref (u2 2), .ref (u2 3)])), ((u2 1), .inl (gtc g 0, 8, .inl (fun _ => 0))), ((u2 2), .inl (gtc g 0, 8, .inl (neg8))), ((u2 3), .inl (gtc g 0, 320, .inl (fun _ => 0))), ((u4 0), .inr (6, [.ref (u4 1), .int 0, .int 0, .int 0, .int 0])), ((u4 1), .inl (gtc g 1, 500, .inl (fun _ => 0))), ((u6 0), .inr (4, [.ref (u6 1), .int 0])), ((u6 1), .inr (2, [.int 0, .int 0, .int 0, .int 0, .int 0, .int 0, .int 0, .ref (u6 2), .ref (u6 3), .ref (u6 4), .ref (u6 5), .ref (u6 6), .ref (u6 7), .ref (u6 8), .ref (u6 9)])), ((u6 2), .inl (gtc g 0, 12, .inl (fun _ => 0))), ((u6 3), .inl (gtc g 0, 12, .inl (fun _ => 0))), ((u6 4), .inl (gtc g 0, 6, .inl (fun _ => 0))), ((u6 5), .inl (gtc g 0, 6, .inl (fun _ => 0))), ((u6 6), .inl (gtc g 0, 6, .inl (fun _ => 0))), ((u6 7), .inl (gtc g 0, 6, .inl (fun _ => 0))), ((u6 8), .inl (gtc g 0, 24, .inl (fun _ => 0))), ((u6 9), .inl (gtc g 0, 24, .inl (fun _ => 0))), ((u8 0), .inr (2, [.int 0, .int 0, .int 0, .int 0, .int 0, .int 0, .int 0, .ref (u8 1), .ref (u8 2), .ref (u8 3), .ref (u8 4), .ref (u8 5), .ref (u8 6), .ref (u8 7), .ref (u8 8)])), ((u8 1), .inl (gtc g 0, 12, .inl (fun _ => 0))), ((u8 2), .inl (gtc g 0, 12, .inl (fun _ => 0))), ((u8 3), .inl (gtc g 0, 6, .inl (fun _ => 0))), ((u8 4), .inl (gtc g 0, 6, .inl (fun _ => 0))), ((u8 5), .inl (gtc g 0, 6, .inl (fun _ => 0))), ((u8 6), .inl (gtc g 0, 6, .inl (fun _ => 0))), ((u8 7), .inl (gtc g 0, 24, .inl (fun _ => 0))), ((u8 8), .inl (gtc g 0, 24, .inl (fun _ => 0))), ((u10 0), .inr (2, [.int 0, .int 0, .int 0, .int 0, .int 0, .int 0, .int 0, .ref (u10 1), .ref (u10 2), .ref (u10 3), .ref (u10 4), .ref (u10 5), .ref (u10 6), .ref (u10 7), .ref (u10 8)])), ((u10 1), .inl (gtc g 0, 12, .inl (fun _ => 0))), ((u10 2), .inl (gtc g 0, 12, .inl (fun _ => 0))), ((u10 3), .inl (gtc g 0, 6, .inl (fun _ => 0))), ((u10 4), .inl (gtc g 0, 6, .inl (fun _ => 0))), ((u10 5), .inl (gtc g 0, 6, .inl (fun _ => 0))), ((u10 6), .inl (gtc g 0, 6, .inl (fun _ => 0))), ((u10 7), .inl (gtc g 0, 24, .inl (fun _ => 0))), ((u10 8), .inl (gtc g 0, 24, .inl (fun _ => 0))), ((u12 0), .inr (2, [.int 0, .int 0, .int 0, .int 0, .int 0, .int 0, .int 0, .ref (u12 1), .ref (u12 2), .ref (u12 3), .ref (u12 4), .ref (u12 5), .ref (u12 6), .ref (u12 7), .ref (u12 8)])), ((u12 1), .inl (gtc g 0, 12, .inl (fun _ => 0))), ((u12 2), .inl (gtc g 0, 12, .inl (fun _ => 0))), ((u12 3), .inl (gtc g 0, 6, .inl (fun _ => 0))), ((u12 4), .inl (gtc g 0, 6, .inl (fun _ => 0))), ((u12 5), .inl (gtc g 0, 6, .inl (fun _ => 0))), ((u12 6), .inl (gtc g 0, 6, .inl (fun _ => 0))), ((u12 7), .inl (gtc g 0, 24, .inl (fun _ => 0))), ((u12 8), .inl (gtc g 0, 24, .inl (fun _ => 0))), ((u14 0), .inr (0, [.ref (u14 1), .ref (u14 2), .ref (u14 3), .ref (u14 4), .int 0, .int 0])), ((u14 1), .inl (gtc g 0, 24, .inl (fun _ => 0))), ((u14 2), .inl (gtc g 0, 24, .inl (fun _ => 0))), ((u14 3), .inl (gtc g 0, 24, .inl (fun _ => 0))), ((u14 4), .inl (gtc g 0, 24, .inl (fun _ => 0))), ((u16 0), .inr (3, [.ref (u16 1), .ref (u16 2), .ref (u16 3), .ref (u16 4), .ref (u16 5), .ref (u16 6), .ref (u16 7), .ref (u16 8), .int 0, .int 0, .int 0])), ((u16 1), .inl (gtc g 0, 36, .inl (fun _ => 0))), ((u16 2), .inl (gtc g 0, 6, .inl (fun _ => 0))), ((u16 3), .inl (gtc g 0, 6, .inl (fun _ => 0))), ((u16 4), .inl (gtc g 0, 6, .inl (fun _ => 0))), ((u16 5), .inl (gtc g 0, 6, .inl (fun _ => 0))), ((u16 6), .inl (gtc g 0, 6, .inl (fun _ => 0))), ((u16 7), .inl (gtc g 0, 6, .inl (fun _ => 0))), ((u16 8), .inl (gtc g 0, 6, .inl (fun _ => 0)))]) rfl ?_
  rw [← e_u16]
  refine c_putF F ciX7 0 7 (tt := .object "ArchTrades$Foretold") rfl (by decide) rfl rfl rfl rfl rfl rfl (Nat.le_of_ble_eq_true rfl) m246 dX7_init_89 ?_
  refine c_ws (ws' := [(a0, .inr (7, [.ref (u2 0), .ref (u4 0), .ref (u6 0), .ref (u8 0), .ref (u10 0), .ref (u12 0), .ref (u14 0), .ref (u16 0), .null, .int 0, .int 0])), ((u2 0), .inr (5, [.ref (u2 1), .ref (u2 2), .ref (u2 3)])), ((u2 1), .inl (gtc g 0, 8, .inl (fun _ => 0))), ((u2 2), .inl (gtc g 0, 8, .inl (neg8))), ((u2 3), .inl (gtc g 0, 320, .inl (fun _ => 0))), ((u4 0), .inr (6, [.ref (u4 1), .int 0, .int 0, .int 0, .int 0])), ((u4 1), .inl (gtc g 1, 500, .inl (fun _ => 0))), ((u6 0), .inr (4, [.ref (u6 1), .int 0])), ((u6 1), .inr (2, [.int 0, .int 0, .int 0, .int 0, .int 0, .int 0, .int 0, .ref (u6 2), .ref (u6 3), .ref (u6 4), .ref (u6 5), .ref (u6 6), .ref (u6 7), .ref (u6 8), .ref (u6 9)])), ((u6 2), .inl (gtc g 0, 12, .inl (fun _ => 0))), ((u6 3), .inl (gtc g 0, 12, .inl (fun _ => 0))), ((u6 4), .inl (gtc g 0, 6, .inl (fun _ => 0))), ((u6 5), .inl (gtc g 0, 6, .inl (fun _ => 0))), ((u6 6), .inl (gtc g 0, 6, .inl (fun _ => 0))), ((u6 7), .inl (gtc g 0, 6, .inl (fun _ => 0))), ((u6 8), .inl (gtc g 0, 24, .inl (fun _ => 0))), ((u6 9), .inl (gtc g 0, 24, .inl (fun _ => 0))), ((u8 0), .inr (2, [.int 0, .int 0, .int 0, .int 0, .int 0, .int 0, .int 0, .ref (u8 1), .ref (u8 2), .ref (u8 3), .ref (u8 4), .ref (u8 5), .ref (u8 6), .ref (u8 7), .ref (u8 8)])), ((u8 1), .inl (gtc g 0, 12, .inl (fun _ => 0))), ((u8 2), .inl (gtc g 0, 12, .inl (fun _ => 0))), ((u8 3), .inl (gtc g 0, 6, .inl (fun _ => 0))), ((u8 4), .inl (gtc g 0, 6, .inl (fun _ => 0))), ((u8 5), .inl (gtc g 0, 6, .inl (fun _ => 0))), ((u8 6), .inl (gtc g 0, 6, .inl (fun _ => 0))), ((u8 7), .inl (gtc g 0, 24, .inl (fun _ => 0))), ((u8 8), .inl (gtc g 0, 24, .inl (fun _ => 0))), ((u10 0), .inr (2, [.int 0, .int 0, .int 0, .int 0, .int 0, .int 0, .int 0, .ref (u10 1), .ref (u10 2), .ref (u10 3), .ref (u10 4), .ref (u10 5), .ref (u10 6), .ref (u10 7), .ref (u10 8)])), ((u10 1), .inl (gtc g 0, 12, .inl (fun _ => 0))), ((u10 2), .inl (gtc g 0, 12, .inl (fun _ => 0))), ((u10 3), .inl (gtc g 0, 6, .inl (fun _ => 0))), ((u10 4), .inl (gtc g 0, 6, .inl (fun _ => 0))), ((u10 5), .inl (gtc g 0, 6, .inl (fun _ => 0))), ((u10 6), .inl (gtc g 0, 6, .inl (fun _ => 0))), ((u10 7), .inl (gtc g 0, 24, .inl (fun _ => 0))), ((u10 8), .inl (gtc g 0, 24, .inl (fun _ => 0))), ((u12 0), .inr (2, [.int 0, .int 0, .int 0, .int 0, .int 0, .int 0, .int 0, .ref (u12 1), .ref (u12 2), .ref (u12 3), .ref (u12 4), .ref (u12 5), .ref (u12 6), .ref (u12 7), .ref (u12 8)])), ((u12 1), .inl (gtc g 0, 12, .inl (fun _ => 0))), ((u12 2), .inl (gtc g 0, 12, .inl (fun _ => 0))), ((u12 3), .inl (gtc g 0, 6, .inl (fun _ => 0))), ((u12 4), .inl (gtc g 0, 6, .inl (fun _ => 0))), ((u12 5), .inl (gtc g 0, 6, .inl (fun _ => 0))), ((u12 6), .inl (gtc g 0, 6, .inl (fun _ => 0))), ((u12 7), .inl (gtc g 0, 24, .inl (fun _ => 0))), ((u12 8), .inl (gtc g 0, 24, .inl (fun _ => 0))), ((u14 0), .inr (0, [.ref (u14 1), .ref (u14 2), .ref (u14 3), .ref (u14 4), .int 0, .int 0])), ((u14 1), .inl (gtc g 0, 24, .inl (fun _ => 0))), ((u14 2), .inl (gtc g 0, 24, .inl (fun _ => 0))), ((u14 3), .inl (gtc g 0, 24, .inl (fun _ => 0))), ((u14 4), .inl (gtc g 0, 24, .inl (fun _ => 0))), ((u16 0), .inr (3, [.ref (u16 1), .ref (u16 2), .ref (u16 3), .ref (u16 4), .ref (u16 5), .ref (u16 6), .ref (u16 7), .ref (u16 8), .int 0, .int 0, .int 0])), ((u16 1), .inl (gtc g 0, 36, .inl (fun _ => 0))), ((u16 2), .inl (gtc g 0, 6, .inl (fun _ => 0))), ((u16 3), .inl (gtc g 0, 6, .inl (fun _ => 0))), ((u16 4), .inl (gtc g 0, 6, .inl (fun _ => 0))), ((u16 5), .inl (gtc g 0, 6, .inl (fun _ => 0))), ((u16 6), .inl (gtc g 0, 6, .inl (fun _ => 0))), ((u16 7), .inl (gtc g 0, 6, .inl (fun _ => 0))), ((u16 8), .inl (gtc g 0, 6, .inl (fun _ => 0)))]) rfl ?_
  refine c_aload F dX7_init_92 rfl 0 rfl ?_
  refine c_new F ciX1 (fs := fz1) m226 m227 m8 fz1_ok (by decide) (by decide) dX7_init_93 (fun q17 => ?_)
  refine c_ws (ws' := [(a0, .inr (7, [.ref (u2 0), .ref (u4 0), .ref (u6 0), .ref (u8 0), .ref (u10 0), .ref (u12 0), .ref (u14 0), .ref (u16 0), .null, .int 0, .int 0])), ((u2 0), .inr (5, [.ref (u2 1), .ref (u2 2), .ref (u2 3)])), ((u2 1), .inl (gtc g 0, 8, .inl (fun _ => 0))), ((u2 2), .inl (gtc g 0, 8, .inl (neg8))), ((u2 3), .inl (gtc g 0, 320, .inl (fun _ => 0))), ((u4 0), .inr (6, [.ref (u4 1), .int 0, .int 0, .int 0, .int 0])), ((u4 1), .inl (gtc g 1, 500, .inl (fun _ => 0))), ((u6 0), .inr (4, [.ref (u6 1), .int 0])), ((u6 1), .inr (2, [.int 0, .int 0, .int 0, .int 0, .int 0, .int 0, .int 0, .ref (u6 2), .ref (u6 3), .ref (u6 4), .ref (u6 5), .ref (u6 6), .ref (u6 7), .ref (u6 8), .ref (u6 9)])), ((u6 2), .inl (gtc g 0, 12, .inl (fun _ => 0))), ((u6 3), .inl (gtc g 0, 12, .inl (fun _ => 0))), ((u6 4), .inl (gtc g 0, 6, .inl (fun _ => 0))), ((u6 5), .inl (gtc g 0, 6, .inl (fun _ => 0))), ((u6 6), .inl (gtc g 0, 6, .inl (fun _ => 0))), ((u6 7), .inl (gtc g 0, 6, .inl (fun _ => 0))), ((u6 8), .inl (gtc g 0, 24, .inl (fun _ => 0))), ((u6 9), .inl (gtc g 0, 24, .inl (fun _ => 0))), ((u8 0), .inr (2, [.int 0, .int 0, .int 0, .int 0, .int 0, .int 0, .int 0, .ref (u8 1), .ref (u8 2), .ref (u8 3), .ref (u8 4), .ref (u8 5), .ref (u8 6), .ref (u8 7), .ref (u8 8)])), ((u8 1), .inl (gtc g 0, 12, .inl (fun _ => 0))), ((u8 2), .inl (gtc g 0, 12, .inl (fun _ => 0))), ((u8 3), .inl (gtc g 0, 6, .inl (fun _ => 0))), ((u8 4), .inl (gtc g 0, 6, .inl (fun _ => 0))), ((u8 5), .inl (gtc g 0, 6, .inl (fun _ => 0))), ((u8 6), .inl (gtc g 0, 6, .inl (fun _ => 0))), ((u8 7), .inl (gtc g 0, 24, .inl (fun _ => 0))), ((u8 8), .inl (gtc g 0, 24, .inl (fun _ => 0))), ((u10 0), .inr (2, [.int 0, .int 0, .int 0, .int 0, .int 0, .int 0, .int 0, .ref (u10 1), .ref (u10 2), .ref (u10 3), .ref (u10 4), .ref (u10 5), .ref (u10 6), .ref (u10 7), .ref (u10 8)])), ((u10 1), .inl (gtc g 0, 12, .inl (fun _ => 0))), ((u10 2), .inl (gtc g 0, 12, .inl (fun _ => 0))), ((u10 3), .inl (gtc g 0, 6, .inl (fun _ => 0))), ((u10 4), .inl (gtc g 0, 6, .inl (fun _ => 0))), ((u10 5), .inl (gtc g 0, 6, .inl (fun _ => 0))), ((u10 6), .inl (gtc g 0, 6, .inl (fun _ => 0))), ((u10 7), .inl (gtc g 0, 24, .inl (fun _ => 0))), ((u10 8), .inl (gtc g 0, 24, .inl (fun _ => 0))), ((u12 0), .inr (2, [.int 0, .int 0, .int 0, .int 0, .int 0, .int 0, .int 0, .ref (u12 1), .ref (u12 2), .ref (u12 3), .ref (u12 4), .ref (u12 5), .ref (u12 6), .ref (u12 7), .ref (u12 8)])), ((u12 1), .inl (gtc g 0, 12, .inl (fun _ => 0))), ((u12 2), .inl (gtc g 0, 12, .inl (fun _ => 0))), ((u12 3), .inl (gtc g 0, 6, .inl (fun _ => 0))), ((u12 4), .inl (gtc g 0, 6, .inl (fun _ => 0))), ((u12 5), .inl (gtc g 0, 6, .inl (fun _ => 0))), ((u12 6), .inl (gtc g 0, 6, .inl (fun _ => 0))), ((u12 7), .inl (gtc g 0, 24, .inl (fun _ => 0))), ((u12 8), .inl (gtc g 0, 24, .inl (fun _ => 0))), ((u14 0), .inr (0, [.ref (u14 1), .ref (u14 2), .ref (u14 3), .ref (u14 4), .int 0, .int 0])), ((u14 1), .inl (gtc g 0, 24, .inl (fun _ => 0))), ((u14 2), .inl (gtc g 0, 24, .inl (fun _ => 0))), ((u14 3), .inl (gtc g 0, 24, .inl (fun _ => 0))), ((u14 4), .inl (gtc g 0, 24, .inl (fun _ => 0))), ((u16 0), .inr (3, [.ref (u16 1), .ref (u16 2), .ref (u16 3), .ref (u16 4), .ref (u16 5), .ref (u16 6), .ref (u16 7), .ref (u16 8), .int 0, .int 0, .int 0])), ((u16 1), .inl (gtc g 0, 36, .inl (fun _ => 0))), ((u16 2), .inl (gtc g 0, 6, .inl (fun _ => 0))), ((u16 3), .inl (gtc g 0, 6, .inl (fun _ => 0))), ((u16 4), .inl (gtc g 0, 6, .inl (fun _ => 0))), ((u16 5), .inl (gtc g 0, 6, .inl (fun _ => 0))), ((u16 6), .inl (gtc g 0, 6, .inl (fun _ => 0))), ((u16 7), .inl (gtc g 0, 6, .inl (fun _ => 0))), ((u16 8), .inl (gtc g 0, 6, .inl (fun _ => 0))), (q17, .inr (1, [.null, .int 0]))]) rfl ?_
  refine c_dup F dX7_init_96 rfl ?_
  refine c_call F (cc_X1 z.2.1 g) m229 m8 m230 (Or.inl (List.mem_of_getElem? (i := 12) rfl)) rfl ⟨by decide +kernel, by decide +kernel, by decide +kernel⟩ (by decide) (by decide) (by decide) (by decide) rfl (Nat.le_of_ble_eq_true rfl) dX7_init_97 (fun u18 e_u18 => ?_)
  refine c_ws (ws' := [(a0, .inr (7, [.ref (u2 0), .ref (u4 0), .ref (u6 0), .ref (u8 0), .ref (u10 0), .ref (u12 0), .ref (u14 0), .ref (u16 0), .null, .int 0, .int 0])), ((u2 0), .inr (5, [.ref (u2 1), .ref (u2 2), .ref (u2 3)])), ((u2 1), .inl (gtc g 0, 8, .inl (fun _ => 0))), ((u2 2), .inl (gtc g 0, 8, .inl (neg8))), ((u2 3), .inl (gtc g 0, 320, .inl (fun _ => 0))), ((u4 0), .inr (6, [.ref (u4 1), .int 0, .int 0, .int 0, .int 0])), ((u4 1), .inl (gtc g 1, 500, .inl (fun _ => 0))), ((u6 0), .inr (4, [.ref (u6 1), .int 0])), ((u6 1), .inr (2, [.int 0, .int 0, .int 0, .int 0, .int 0, .int 0, .int 0, .ref (u6 2), .ref (u6 3), .ref (u6 4), .ref (u6 5), .ref (u6 6), .ref (u6 7), .ref (u6 8), .ref (u6 9)])), ((u6 2), .inl (gtc g 0, 12, .inl (fun _ => 0))), ((u6 3), .inl (gtc g 0, 12, .inl (fun _ => 0))), ((u6 4), .inl (gtc g 0, 6, .inl (fun _ => 0))), ((u6 5), .inl (gtc g 0, 6, .inl (fun _ => 0))), ((u6 6), .inl (gtc g 0, 6, .inl (fun _ => 0))), ((u6 7), .inl (gtc g 0, 6, .inl (fun _ => 0))), ((u6 8), .inl (gtc g 0, 24, .inl (fun _ => 0))), ((u6 9), .inl (gtc g 0, 24, .inl (fun _ => 0))), ((u8 0), .inr (2, [.int 0, .int 0, .int 0, .int 0, .int 0, .int 0, .int 0, .ref (u8 1), .ref (u8 2), .ref (u8 3), .ref (u8 4), .ref (u8 5), .ref (u8 6), .ref (u8 7), .ref (u8 8)])), ((u8 1), .inl (gtc g 0, 12, .inl (fun _ => 0))), ((u8 2), .inl (gtc g 0, 12, .inl (fun _ => 0))), ((u8 3), .inl (gtc g 0, 6, .inl (fun _ => 0))), ((u8 4), .inl (gtc g 0, 6, .inl (fun _ => 0))), ((u8 5), .inl (gtc g 0, 6, .inl (fun _ => 0))), ((u8 6), .inl (gtc g 0, 6, .inl (fun _ => 0))), ((u8 7), .inl (gtc g 0, 24, .inl (fun _ => 0))), ((u8 8), .inl (gtc g 0, 24, .inl (fun _ => 0))), ((u10 0), .inr (2, [.int 0, .int 0, .int 0, .int 0, .int 0, .int 0, .int 0, .ref (u10 1), .ref (u10 2), .ref (u10 3), .ref (u10 4), .ref (u10 5), .ref (u10 6), .ref (u10 7), .ref (u10 8)])), ((u10 1), .inl (gtc g 0, 12, .inl (fun _ => 0))), ((u10 2), .inl (gtc g 0, 12, .inl (fun _ => 0))), ((u10 3), .inl (gtc g 0, 6, .inl (fun _ => 0))), ((u10 4), .inl (gtc g 0, 6, .inl (fun _ => 0))), ((u10 5), .inl (gtc g 0, 6, .inl (fun _ => 0))), ((u10 6), .inl (gtc g 0, 6, .inl (fun _ => 0))), ((u10 7), .inl (gtc g 0, 24, .inl (fun _ => 0))), ((u10 8), .inl (gtc g 0, 24, .inl (fun _ => 0))), ((u12 0), .inr (2, [.int 0, .int 0, .int 0, .int 0, .int 0, .int 0, .int 0, .ref (u12 1), .ref (u12 2), .ref (u12 3), .ref (u12 4), .ref (u12 5), .ref (u12 6), .ref (u12 7), .ref (u12 8)])), ((u12 1), .inl (gtc g 0, 12, .inl (fun _ => 0))), ((u12 2), .inl (gtc g 0, 12, .inl (fun _ => 0))), ((u12 3), .inl (gtc g 0, 6, .inl (fun _ => 0))), ((u12 4), .inl (gtc g 0, 6, .inl (fun _ => 0))), ((u12 5), .inl (gtc g 0, 6, .inl (fun _ => 0))), ((u12 6), .inl (gtc g 0, 6, .inl (fun _ => 0))), ((u12 7), .inl (gtc g 0, 24, .inl (fun _ => 0))), ((u12 8), .inl (gtc g 0, 24, .inl (fun _ => 0))), ((u14 0), .inr (0, [.ref (u14 1), .ref (u14 2), .ref (u14 3), .ref (u14 4), .int 0, .int 0])), ((u14 1), .inl (gtc g 0, 24, .inl (fun _ => 0))), ((u14 2), .inl (gtc g 0, 24, .inl (fun _ => 0))), ((u14 3), .inl (gtc g 0, 24, .inl (fun _ => 0))), ((u14 4), .inl (gtc g 0, 24, .inl (fun _ => 0))), ((u16 0), .inr (3, [.ref (u16 1), .ref (u16 2), .ref (u16 3), .ref (u16 4), .ref (u16 5), .ref (u16 6), .ref (u16 7), .ref (u16 8), .int 0, .int 0, .int 0])), ((u16 1), .inl (gtc g 0, 36, .inl (fun _ => 0))), ((u16 2), .inl (gtc g 0, 6, .inl (fun _ => 0))), ((u16 3), .inl (gtc g 0, 6, .inl (fun _ => 0))), ((u16 4), .inl (gtc g 0, 6, .inl (fun _ => 0))), ((u16 5), .inl (gtc g 0, 6, .inl (fun _ => 0))), ((u16 6), .inl (gtc g 0, 6, .inl (fun _ => 0))), ((u16 7), .inl (gtc g 0, 6, .inl (fun _ => 0))), ((u16 8), .inl (gtc g 0, 6, .inl (fun _ => 0))), ((u18 0), .inr (1, [.ref (u18 1), .int 0])), ((u18 1), .inl (gtc g 0, 16, .inl (fun _ => 0)))]) rfl ?_
  rw [← e_u18]
  refine c_putF F ciX7 0 8 (tt := .object "ArchTrades$Asks") rfl (by decide) rfl rfl rfl rfl rfl rfl (Nat.le_of_ble_eq_true rfl) m247 dX7_init_100 ?_
  refine c_ws (ws' := [(a0, .inr (7, [.ref (u2 0), .ref (u4 0), .ref (u6 0), .ref (u8 0), .ref (u10 0), .ref (u12 0), .ref (u14 0), .ref (u16 0), .ref (u18 0), .int 0, .int 0])), ((u2 0), .inr (5, [.ref (u2 1), .ref (u2 2), .ref (u2 3)])), ((u2 1), .inl (gtc g 0, 8, .inl (fun _ => 0))), ((u2 2), .inl (gtc g 0, 8, .inl (neg8))), ((u2 3), .inl (gtc g 0, 320, .inl (fun _ => 0))), ((u4 0), .inr (6, [.ref (u4 1), .int 0, .int 0, .int 0, .int 0])), ((u4 1), .inl (gtc g 1, 500, .inl (fun _ => 0))), ((u6 0), .inr (4, [.ref (u6 1), .int 0])), ((u6 1), .inr (2, [.int 0, .int 0, .int 0, .int 0, .int 0, .int 0, .int 0, .ref (u6 2), .ref (u6 3), .ref (u6 4), .ref (u6 5), .ref (u6 6), .ref (u6 7), .ref (u6 8), .ref (u6 9)])), ((u6 2), .inl (gtc g 0, 12, .inl (fun _ => 0))), ((u6 3), .inl (gtc g 0, 12, .inl (fun _ => 0))), ((u6 4), .inl (gtc g 0, 6, .inl (fun _ => 0))), ((u6 5), .inl (gtc g 0, 6, .inl (fun _ => 0))), ((u6 6), .inl (gtc g 0, 6, .inl (fun _ => 0))), ((u6 7), .inl (gtc g 0, 6, .inl (fun _ => 0))), ((u6 8), .inl (gtc g 0, 24, .inl (fun _ => 0))), ((u6 9), .inl (gtc g 0, 24, .inl (fun _ => 0))), ((u8 0), .inr (2, [.int 0, .int 0, .int 0, .int 0, .int 0, .int 0, .int 0, .ref (u8 1), .ref (u8 2), .ref (u8 3), .ref (u8 4), .ref (u8 5), .ref (u8 6), .ref (u8 7), .ref (u8 8)])), ((u8 1), .inl (gtc g 0, 12, .inl (fun _ => 0))), ((u8 2), .inl (gtc g 0, 12, .inl (fun _ => 0))), ((u8 3), .inl (gtc g 0, 6, .inl (fun _ => 0))), ((u8 4), .inl (gtc g 0, 6, .inl (fun _ => 0))), ((u8 5), .inl (gtc g 0, 6, .inl (fun _ => 0))), ((u8 6), .inl (gtc g 0, 6, .inl (fun _ => 0))), ((u8 7), .inl (gtc g 0, 24, .inl (fun _ => 0))), ((u8 8), .inl (gtc g 0, 24, .inl (fun _ => 0))), ((u10 0), .inr (2, [.int 0, .int 0, .int 0, .int 0, .int 0, .int 0, .int 0, .ref (u10 1), .ref (u10 2), .ref (u10 3), .ref (u10 4), .ref (u10 5), .ref (u10 6), .ref (u10 7), .ref (u10 8)])), ((u10 1), .inl (gtc g 0, 12, .inl (fun _ => 0))), ((u10 2), .inl (gtc g 0, 12, .inl (fun _ => 0))), ((u10 3), .inl (gtc g 0, 6, .inl (fun _ => 0))), ((u10 4), .inl (gtc g 0, 6, .inl (fun _ => 0))), ((u10 5), .inl (gtc g 0, 6, .inl (fun _ => 0))), ((u10 6), .inl (gtc g 0, 6, .inl (fun _ => 0))), ((u10 7), .inl (gtc g 0, 24, .inl (fun _ => 0))), ((u10 8), .inl (gtc g 0, 24, .inl (fun _ => 0))), ((u12 0), .inr (2, [.int 0, .int 0, .int 0, .int 0, .int 0, .int 0, .int 0, .ref (u12 1), .ref (u12 2), .ref (u12 3), .ref (u12 4), .ref (u12 5), .ref (u12 6), .ref (u12 7), .ref (u12 8)])), ((u12 1), .inl (gtc g 0, 12, .inl (fun _ => 0))), ((u12 2), .inl (gtc g 0, 12, .inl (fun _ => 0))), ((u12 3), .inl (gtc g 0, 6, .inl (fun _ => 0))), ((u12 4), .inl (gtc g 0, 6, .inl (fun _ => 0))), ((u12 5), .inl (gtc g 0, 6, .inl (fun _ => 0))), ((u12 6), .inl (gtc g 0, 6, .inl (fun _ => 0))), ((u12 7), .inl (gtc g 0, 24, .inl (fun _ => 0))), ((u12 8), .inl (gtc g 0, 24, .inl (fun _ => 0))), ((u14 0), .inr (0, [.ref (u14 1), .ref (u14 2), .ref (u14 3), .ref (u14 4), .int 0, .int 0])), ((u14 1), .inl (gtc g 0, 24, .inl (fun _ => 0))), ((u14 2), .inl (gtc g 0, 24, .inl (fun _ => 0))), ((u14 3), .inl (gtc g 0, 24, .inl (fun _ => 0))), ((u14 4), .inl (gtc g 0, 24, .inl (fun _ => 0))), ((u16 0), .inr (3, [.ref (u16 1), .ref (u16 2), .ref (u16 3), .ref (u16 4), .ref (u16 5), .ref (u16 6), .ref (u16 7), .ref (u16 8), .int 0, .int 0, .int 0])), ((u16 1), .inl (gtc g 0, 36, .inl (fun _ => 0))), ((u16 2), .inl (gtc g 0, 6, .inl (fun _ => 0))), ((u16 3), .inl (gtc g 0, 6, .inl (fun _ => 0))), ((u16 4), .inl (gtc g 0, 6, .inl (fun _ => 0))), ((u16 5), .inl (gtc g 0, 6, .inl (fun _ => 0))), ((u16 6), .inl (gtc g 0, 6, .inl (fun _ => 0))), ((u16 7), .inl (gtc g 0, 6, .inl (fun _ => 0))), ((u16 8), .inl (gtc g 0, 6, .inl (fun _ => 0))), ((u18 0), .inr (1, [.ref (u18 1), .int 0])), ((u18 1), .inl (gtc g 0, 16, .inl (fun _ => 0)))]) rfl ?_
  exact c_ret F (fun i => [a0, (u2 0), (u2 1), (u2 2), (u2 3), (u4 0), (u4 1), (u6 0), (u6 1), (u6 2), (u6 3), (u6 4), (u6 5), (u6 6), (u6 7), (u6 8), (u6 9), (u8 0), (u8 1), (u8 2), (u8 3), (u8 4), (u8 5), (u8 6), (u8 7), (u8 8), (u10 0), (u10 1), (u10 2), (u10 3), (u10 4), (u10 5), (u10 6), (u10 7), (u10 8), (u12 0), (u12 1), (u12 2), (u12 3), (u12 4), (u12 5), (u12 6), (u12 7), (u12 8), (u14 0), (u14 1), (u14 2), (u14 3), (u14 4), (u16 0), (u16 1), (u16 2), (u16 3), (u16 4), (u16 5), (u16 6), (u16 7), (u16 8), (u18 0), (u18 1)].getD i 0) (by decide) (by decide) rfl rfl hA dX7_init_103
