theorem dJ0_length_8abf5_0 : decode cJ0_length_8abf5 0 = .ok (.aload_n 0, 1) := by decide +kernel
theorem dJ0_length_8abf5_1 : decode cJ0_length_8abf5 1 = .ok (.getfield 9, 3) := by decide +kernel
theorem dJ0_length_8abf5_4 : decode cJ0_length_8abf5 4 = .ok (.arraylength, 1) := by decide +kernel
theorem dJ0_length_8abf5_5 : decode cJ0_length_8abf5 5 = .ok (.aload_n 0, 1) := by decide +kernel
theorem dJ0_length_8abf5_6 : decode cJ0_length_8abf5 6 = .ok (.invokevirtual 335, 3) := by decide +kernel
theorem dJ0_length_8abf5_9 : decode cJ0_length_8abf5 9 = .ok (.ishr, 1) := by decide +kernel
theorem dJ0_length_8abf5_10 : decode cJ0_length_8abf5 10 = .ok (.ireturn, 1) := by decide +kernel
theorem yv_J0_length_8abf5 : YV yJ0_length_8abf5 cJ0_length_8abf5 1 (some .int) 0 := ⟨m388, m389, m12, m390, ⟨by decide +kernel, by decide +kernel, by decide +kernel⟩, by decide⟩
theorem dJ0_charAt_5068e_0 : decode cJ0_charAt_5068e 0 = .ok (.aload_n 0, 1) := by decide +kernel
theorem dJ0_charAt_5068e_1 : decode cJ0_charAt_5068e 1 = .ok (.invokevirtual 492, 3) := by decide +kernel
theorem dJ0_charAt_5068e_4 : decode cJ0_charAt_5068e 4 = .ok (.ifCond .eq 12, 3) := by decide +kernel
theorem dJ0_charAt_5068e_7 : decode cJ0_charAt_5068e 7 = .ok (.aload_n 0, 1) := by decide +kernel
theorem dJ0_charAt_5068e_8 : decode cJ0_charAt_5068e 8 = .ok (.getfield 9, 3) := by decide +kernel
theorem dJ0_charAt_5068e_11 : decode cJ0_charAt_5068e 11 = .ok (.iload_n 1, 1) := by decide +kernel
theorem dJ0_charAt_5068e_12 : decode cJ0_charAt_5068e 12 = .ok (.invokestatic 495, 3) := by decide +kernel
theorem dJ0_charAt_5068e_15 : decode cJ0_charAt_5068e 15 = .ok (.ireturn, 1) := by decide +kernel
theorem dJ0_charAt_5068e_16 : decode cJ0_charAt_5068e 16 = .ok (.aload_n 0, 1) := by decide +kernel
theorem dJ0_charAt_5068e_17 : decode cJ0_charAt_5068e 17 = .ok (.getfield 9, 3) := by decide +kernel
theorem dJ0_charAt_5068e_20 : decode cJ0_charAt_5068e 20 = .ok (.iload_n 1, 1) := by decide +kernel
theorem dJ0_charAt_5068e_21 : decode cJ0_charAt_5068e 21 = .ok (.invokestatic 498, 3) := by decide +kernel
theorem dJ0_charAt_5068e_24 : decode cJ0_charAt_5068e 24 = .ok (.ireturn, 1) := by decide +kernel
theorem yv_J0_charAt_5068e : YV yJ0_charAt_5068e cJ0_charAt_5068e 2 (some .char) 1 := ⟨m398, m399, m12, m400, ⟨by decide +kernel, by decide +kernel, by decide +kernel⟩, by decide⟩
theorem dJ0_coder_7d493_0 : decode cJ0_coder_7d493 0 = .ok (.getstatic 38, 3) := by decide +kernel
theorem dJ0_coder_7d493_3 : decode cJ0_coder_7d493 3 = .ok (.ifCond .eq 10, 3) := by decide +kernel
theorem dJ0_coder_7d493_6 : decode cJ0_coder_7d493 6 = .ok (.aload_n 0, 1) := by decide +kernel
theorem dJ0_coder_7d493_7 : decode cJ0_coder_7d493 7 = .ok (.getfield 15, 3) := by decide +kernel
theorem dJ0_coder_7d493_10 : decode cJ0_coder_7d493 10 = .ok (.goto 4, 3) := by decide +kernel
theorem dJ0_coder_7d493_13 : decode cJ0_coder_7d493 13 = .ok (.iconst 1, 1) := by decide +kernel
theorem dJ0_coder_7d493_14 : decode cJ0_coder_7d493 14 = .ok (.ireturn, 1) := by decide +kernel
theorem yv_J0_coder_7d493 : YV yJ0_coder_7d493 cJ0_coder_7d493 1 (some .byte) 0 := ⟨m392, m393, m12, m394, ⟨by decide +kernel, by decide +kernel, by decide +kernel⟩, by decide⟩
theorem dJ0_isLatin1_aae02_0 : decode cJ0_isLatin1_aae02 0 = .ok (.getstatic 38, 3) := by decide +kernel
theorem dJ0_isLatin1_aae02_3 : decode cJ0_isLatin1_aae02 3 = .ok (.ifCond .eq 14, 3) := by decide +kernel
theorem dJ0_isLatin1_aae02_6 : decode cJ0_isLatin1_aae02 6 = .ok (.aload_n 0, 1) := by decide +kernel
theorem dJ0_isLatin1_aae02_7 : decode cJ0_isLatin1_aae02 7 = .ok (.getfield 15, 3) := by decide +kernel
theorem dJ0_isLatin1_aae02_10 : decode cJ0_isLatin1_aae02 10 = .ok (.ifCond .ne 7, 3) := by decide +kernel
theorem dJ0_isLatin1_aae02_13 : decode cJ0_isLatin1_aae02 13 = .ok (.iconst 1, 1) := by decide +kernel
theorem dJ0_isLatin1_aae02_14 : decode cJ0_isLatin1_aae02 14 = .ok (.goto 4, 3) := by decide +kernel
theorem dJ0_isLatin1_aae02_17 : decode cJ0_isLatin1_aae02 17 = .ok (.iconst 0, 1) := by decide +kernel
theorem dJ0_isLatin1_aae02_18 : decode cJ0_isLatin1_aae02 18 = .ok (.ireturn, 1) := by decide +kernel
theorem yv_J0_isLatin1_aae02 : YV yJ0_isLatin1_aae02 cJ0_isLatin1_aae02 1 (some .boolean) 0 := ⟨m402, m403, m12, m404, ⟨by decide +kernel, by decide +kernel, by decide +kernel⟩, by decide⟩
theorem dJ0_checkIndex_df160_0 : decode cJ0_checkIndex_df160 0 = .ok (.iload_n 0, 1) := by decide +kernel
theorem dJ0_checkIndex_df160_1 : decode cJ0_checkIndex_df160 1 = .ok (.iload_n 1, 1) := by decide +kernel
theorem dJ0_checkIndex_df160_2 : decode cJ0_checkIndex_df160 2 = .ok (.getstatic 1053, 3) := by decide +kernel
theorem dJ0_checkIndex_df160_5 : decode cJ0_checkIndex_df160 5 = .ok (.invokestatic 1059, 3) := by decide +kernel
theorem dJ0_checkIndex_df160_8 : decode cJ0_checkIndex_df160 8 = .ok (.pop, 1) := by decide +kernel
theorem dJ0_checkIndex_df160_9 : decode cJ0_checkIndex_df160 9 = .ok (.return_, 1) := by decide +kernel
theorem ys_J0_checkIndex_df160 : YS yJ0_checkIndex_df160 cJ0_checkIndex_df160 2 none 2 := ⟨m409, m12, m410, ⟨by decide +kernel, by decide +kernel, by decide +kernel⟩, by decide⟩
theorem dJ1_charAt_3b067_0 : decode cJ1_charAt_3b067 0 = .ok (.iload_n 1, 1) := by decide +kernel
theorem dJ1_charAt_3b067_1 : decode cJ1_charAt_3b067 1 = .ok (.aload_n 0, 1) := by decide +kernel
theorem dJ1_charAt_3b067_2 : decode cJ1_charAt_3b067 2 = .ok (.arraylength, 1) := by decide +kernel
theorem dJ1_charAt_3b067_3 : decode cJ1_charAt_3b067 3 = .ok (.invokestatic 9, 3) := by decide +kernel
theorem dJ1_charAt_3b067_6 : decode cJ1_charAt_3b067 6 = .ok (.aload_n 0, 1) := by decide +kernel
theorem dJ1_charAt_3b067_7 : decode cJ1_charAt_3b067 7 = .ok (.iload_n 1, 1) := by decide +kernel
theorem dJ1_charAt_3b067_8 : decode cJ1_charAt_3b067 8 = .ok (.baload, 1) := by decide +kernel
theorem dJ1_charAt_3b067_9 : decode cJ1_charAt_3b067 9 = .ok (.sipush 255, 3) := by decide +kernel
theorem dJ1_charAt_3b067_12 : decode cJ1_charAt_3b067 12 = .ok (.iand, 1) := by decide +kernel
theorem dJ1_charAt_3b067_13 : decode cJ1_charAt_3b067 13 = .ok (.i2c, 1) := by decide +kernel
theorem dJ1_charAt_3b067_14 : decode cJ1_charAt_3b067 14 = .ok (.ireturn, 1) := by decide +kernel
theorem ys_J1_charAt_3b067 : YS yJ1_charAt_3b067 cJ1_charAt_3b067 2 (some .char) 2 := ⟨m406, m13, m407, ⟨by decide +kernel, by decide +kernel, by decide +kernel⟩, by decide⟩
theorem dJ3_checkIndex_8e157_0 : decode cJ3_checkIndex_8e157 0 = .ok (.iload_n 0, 1) := by decide +kernel
theorem dJ3_checkIndex_8e157_1 : decode cJ3_checkIndex_8e157 1 = .ok (.ifCond .lt 8, 3) := by decide +kernel
theorem dJ3_checkIndex_8e157_4 : decode cJ3_checkIndex_8e157 4 = .ok (.iload_n 0, 1) := by decide +kernel
theorem dJ3_checkIndex_8e157_5 : decode cJ3_checkIndex_8e157 5 = .ok (.iload_n 1, 1) := by decide +kernel
theorem dJ3_checkIndex_8e157_6 : decode cJ3_checkIndex_8e157 6 = .ok (.if_icmp .lt 10, 3) := by decide +kernel
theorem dJ3_checkIndex_8e157_9 : decode cJ3_checkIndex_8e157 9 = .ok (.aload_n 2, 1) := by decide +kernel
theorem dJ3_checkIndex_8e157_10 : decode cJ3_checkIndex_8e157 10 = .ok (.iload_n 0, 1) := by decide +kernel
theorem dJ3_checkIndex_8e157_11 : decode cJ3_checkIndex_8e157 11 = .ok (.iload_n 1, 1) := by decide +kernel
theorem dJ3_checkIndex_8e157_12 : decode cJ3_checkIndex_8e157 12 = .ok (.invokestatic 95, 3) := by decide +kernel
theorem dJ3_checkIndex_8e157_15 : decode cJ3_checkIndex_8e157 15 = .ok (.athrow, 1) := by decide +kernel
theorem dJ3_checkIndex_8e157_16 : decode cJ3_checkIndex_8e157 16 = .ok (.iload_n 0, 1) := by decide +kernel
theorem dJ3_checkIndex_8e157_17 : decode cJ3_checkIndex_8e157 17 = .ok (.ireturn, 1) := by decide +kernel
theorem ys_J3_checkIndex_8e157 : YS yJ3_checkIndex_8e157 cJ3_checkIndex_8e157 3 (some .int) 3 := ⟨m414, m14, m415, ⟨by decide +kernel, by decide +kernel, by decide +kernel⟩, by decide⟩
/-! ===== String constants: length and charAt of the JDK, by contract ===== -/
section MK
variable {z : MC} {cc : ByteArray} {nL : Nat} {own : String} {rt : Option FieldType} {lev : Nat} {g : GC} {A : Nat → Prop} {α : Type} {Qf : α → State → Prop} {pc : Nat} {lv : List (Nat × Value)} {st : List Value} {h : AH} {res : Option α}
theorem s_strV (F : Fx z cc nL own rt lev g A) {index i : Nat} (hi : i < 8) (hl : Cond.fieldLink own index "java/lang/String" "value" "[B" ∈ WL) (d : decode cc pc = .ok (.getfield index, 3)) (kk : Snd z nL g A Qf (pc + 3) lv (.ref (gV g i) :: st) h res) : Snd z nL g A Qf pc lv (.ref (gK g i) :: st) h res := by
  intro a ha ls H locs hlv hw
  obtain ⟨hx, hb, hml, hown, hts, hK, -, hE, -⟩ := id F
  exact vk_getf hx hb (hE.2.2.2.1.1 i hi).2.2.1 hw.2.2 hown (hts _ hl) (fun _ h9 => h9) d (kk a ha ls H locs hlv hw)
theorem s_strC (F : Fx z cc nL own rt lev g A) {index i : Nat} (hi : i < 8) (hl : Cond.fieldLink own index "java/lang/String" "coder" "B" ∈ WL) (d : decode cc pc = .ok (.getfield index, 3)) (kk : Snd z nL g A Qf (pc + 3) lv (.int 0 :: st) h res) : Snd z nL g A Qf pc lv (.ref (gK g i) :: st) h res := by
  intro a ha ls H locs hlv hw
  obtain ⟨hx, hb, hml, hown, hts, hK, -, hE, -⟩ := id F
  exact vk_getf hx hb (hE.2.2.2.1.1 i hi).2.1 hw.2.2 hown (hts _ hl) (fun _ h9 => h9) d (kk a ha ls H locs hlv hw)
theorem s_compact (F : Fx z cc nL own rt lev g A) {index : Nat} (hl : Cond.fieldLink own index "java/lang/String" "COMPACT_STRINGS" "Z" ∈ WL) (d : decode cc pc = .ok (.getstatic index, 3)) (kk : Snd z nL g A Qf (pc + 3) lv (.int 1 :: st) h res) : Snd z nL g A Qf pc lv st h res := by
  intro a ha ls H locs hlv hw
  obtain ⟨hx, hb, hml, hown, hts, hK, -, hE, -⟩ := id F
  exact va_gets hx hb hE.2.2.2.2.2.1 hw.2.2 hown (hts _ hl) (fun _ h9 => h9) d (kk a ha ls H locs hlv hw)
theorem s_form (F : Fx z cc nL own rt lev g A) {index : Nat} (hl : Cond.fieldLink own index "jdk/internal/util/Preconditions" "SIOOBE_FORMATTER" "Ljava/util/function/BiFunction;" ∈ WL) (d : decode cc pc = .ok (.getstatic index, 3)) (kk : ∀ v : Value, v.category = 1 → Snd z nL g A Qf (pc + 3) lv (v :: st) h res) : Snd z nL g A Qf pc lv st h res := by
  intro a ha ls H locs hlv hw
  obtain ⟨hx, hb, hml, hown, hts, hK, -, hE, -⟩ := id F
  rcases hE.2.2.2.2.2.2 with hZ | ⟨t, hZ⟩
  · exact va_gets hx hb hZ hw.2.2 hown (hts _ hl) (fun _ h9 => h9) d (kk .null rfl a ha ls H locs hlv hw)
  · exact va_gets hx hb hZ hw.2.2 hown (hts _ hl) (fun _ h9 => h9) d (kk (.ref t) rfl a ha ls H locs hlv hw)
theorem s_klen (F : Fx z cc nL own rt lev g A) {i : Nat} (hi : i < 8) (d : decode cc pc = .ok (.arraylength, 1)) (kk : Snd z nL g A Qf (pc + 1) lv (.int (Int32.ofNat (ksl.getD i 0)) :: st) h res) : Snd z nL g A Qf pc lv (.ref (gV g i) :: st) h res := by
  intro a ha ls H locs hlv hw
  obtain ⟨hx, hb, hml, hown, hts, hK, -, hE, -⟩ := id F
  obtain ⟨cell, h1, h2, h3, h4, h5, h6, h7⟩ := (hE.2.2.2.1.1 i hi).2.2.2
  exact W.alen (n := Int32.ofNat (ksl.getD i 0)) hx hb (by rw [hw.2.2.2.1 _ (Array.getElem?_eq_some_iff.mp h1).1 h7]; exact h1) h2 h5 rfl rfl d (kk a ha ls H locs hlv hw)
theorem s_kld (F : Fx z cc nL own rt lev g A) {i : Nat} (hi : i < 8) {x : Int32} (d : decode cc pc = .ok (.baload, 1)) (kk : Snd z nL g A Qf (pc + 1) lv (.int ((ksb.getD i []).getD x.toNatClampNeg 0) :: st) h res) : Snd z nL g A Qf pc lv (.int x :: .ref (gV g i) :: st) h (ck x (ksl.getD i 0) res) := by
  intro a ha ls H locs hlv hw
  obtain ⟨hin, ha⟩ := ck_in ha
  obtain ⟨hx, hb, hml, hown, hts, hK, -, hE, -⟩ := id F
  exact va_tb hx hb (hE.2.2.2.1.1 i hi).2.2.2 hw.2.2 hin rfl d (kk a ha ls H locs hlv hw)
theorem s_i2c (F : Fx z cc nL own rt lev g A) {x : Int32} (d : decode cc pc = .ok (.i2c, 1)) (k : Snd z nL g A Qf (pc + 1) lv (.int (x.toUInt32 % 65536).toInt32 :: st) h res) : Snd z nL g A Qf pc lv (.int x :: st) h res := fun a ha ls H locs hl hw => lv_i2c F.1 F.2.1 d rfl (k a ha ls H locs hl hw)
end MK
theorem ct_J0_coder_7d493 (l : Launch) (g : GC) {r0 : Nat} (hr0 : r0 < 8) : Ct l yJ0_coder_7d493 cJ0_coder_7d493 1 (some .byte) 3 [.ref (gK g r0)] g mkI (fun h => some (0, h)) := by
  refine Ct.of (by decide +kernel) (Nat.le_of_ble_eq_true rfl) (fun z A h _ F => ?_)
  show Snd z 1 g A (QF z g A mkI) 0 [(0, .ref (gK g r0))] [] h (if (1 : Int32) = 0 then none else some (0, h))
  refine s_compact F m395 dJ0_coder_7d493_0 ?_
  refine s_if_eq F 13 dJ0_coder_7d493_3 (by decide) (fun _ => s_none) (fun _ => ?_)
  refine s_aload_n F dJ0_coder_7d493_6 rfl 0 rfl ?_
  refine s_strC F hr0 m1338 dJ0_coder_7d493_7 ?_
  refine s_goto F 14 dJ0_coder_7d493_10 (by decide) ?_
  exact s_nret F rfl dJ0_coder_7d493_14
theorem ct_J0_isLatin1_aae02 (l : Launch) (g : GC) {r0 : Nat} (hr0 : r0 < 8) : Ct l yJ0_isLatin1_aae02 cJ0_isLatin1_aae02 1 (some .boolean) 3 [.ref (gK g r0)] g mkI (fun h => some (1, h)) := by
  refine Ct.of (by decide +kernel) (Nat.le_of_ble_eq_true rfl) (fun z A h _ F => ?_)
  show Snd z 1 g A (QF z g A mkI) 0 [(0, .ref (gK g r0))] [] h (if (1 : Int32) = 0 then none else if (0 : Int32) = 0 then some (1, h) else none)
  refine s_compact F m395 dJ0_isLatin1_aae02_0 ?_
  refine s_if_eq F 17 dJ0_isLatin1_aae02_3 (by decide) (fun _ => s_none) (fun _ => ?_)
  refine s_aload_n F dJ0_isLatin1_aae02_6 rfl 0 rfl ?_
  refine s_strC F hr0 m1338 dJ0_isLatin1_aae02_7 ?_
  refine s_if_ne F 17 dJ0_isLatin1_aae02_10 (by decide) (fun _ => s_none) (fun _ => ?_)
  refine s_iconst F (v := 1) dJ0_isLatin1_aae02_13 (by decide) ?_
  refine s_goto F 18 dJ0_isLatin1_aae02_14 (by decide) ?_
  exact s_zret1 F (by decide) dJ0_isLatin1_aae02_18
def f_J0_length_8abf5 (r0 : Nat) (h : AH) : Option (Int32 × AH) := bd (some ((0 : Int32), h)) (fun v h2 => some (Int32.ofNat (ksl.getD r0 0) >>> (v &&& 31), h2))
theorem ct_J0_length_8abf5 (l : Launch) (g : GC) {r0 : Nat} (hr0 : r0 < 8) : Ct l yJ0_length_8abf5 cJ0_length_8abf5 1 (some .int) 4 [.ref (gK g r0)] g mkI (fun h => f_J0_length_8abf5 r0 h) := by
  refine Ct.of (by decide +kernel) (Nat.le_of_ble_eq_true rfl) (fun z A h _ F => ?_)
  show Snd z 1 g A (QF z g A mkI) 0 [(0, .ref (gK g r0))] [] h (f_J0_length_8abf5 r0 h)
  unfold f_J0_length_8abf5
  refine s_aload_n F dJ0_length_8abf5_0 rfl 0 rfl ?_
  refine s_strV F hr0 m1337 dJ0_length_8abf5_1 ?_
  refine s_klen F hr0 dJ0_length_8abf5_4 ?_
  refine s_aload_n F dJ0_length_8abf5_5 rfl 0 rfl ?_
  refine s_callK (f := fun hh => some (0, hh)) (As := []) F yv_J0_coder_7d493 (ct_J0_coder_7d493 z.2.1 g hr0) (by decide) m391 hr0 rfl rfl rfl (Nat.le_of_ble_eq_true rfl) dJ0_length_8abf5_6 (fun v h2 _ => ?_)
  refine s_ishr F dJ0_length_8abf5_9 ?_
  exact s_iret F dJ0_length_8abf5_10
theorem ct_J3_checkIndex_8e157 (l : Launch) (g : GC) (x0 x1 : Int32) {w : Value} (hw : w.category = 1) : Ct l yJ3_checkIndex_8e157 cJ3_checkIndex_8e157 3 (some .int) 1 [.int x0, .int x1, w] g mkI (fun h => if x0 < 0 then none else if x0 < x1 then some (x0, h) else none) := by
  refine Ct.of (by decide +kernel) ?_ (fun z A h _ F => ?_)
  · cases w <;> first | exact Nat.le_of_ble_eq_true rfl | cases hw
  have e : lv_args 0 [.int x0, .int x1, w] = [(0, .int x0), (1, .int x1), (2, w)] := rfl
  rw [e]
  refine s_iload_n F dJ3_checkIndex_8e157_0 rfl 0 rfl ?_
  refine s_if_lt F 9 dJ3_checkIndex_8e157_1 (by decide) (fun _ => s_none) (fun _ => ?_)
  refine s_iload_n F dJ3_checkIndex_8e157_4 rfl 0 rfl ?_
  refine s_iload_n F dJ3_checkIndex_8e157_5 rfl 1 rfl ?_
  refine s_icmp_lt F 16 dJ3_checkIndex_8e157_6 (by decide) (fun _ => ?_) (fun _ => s_none)
  refine s_iload_n F dJ3_checkIndex_8e157_16 rfl 0 rfl ?_
  exact s_iret F dJ3_checkIndex_8e157_17
theorem ct_J0_checkIndex_df160 (l : Launch) (g : GC) (x0 x1 : Int32) : Ct l yJ0_checkIndex_df160 cJ0_checkIndex_df160 2 none 2 [.int x0, .int x1] g mkU (fun h => bd (if x0 < 0 then none else if x0 < x1 then some (x0, h) else none) (fun _ h2 => some ((), h2))) := by
  refine Ct.of (by decide +kernel) (Nat.le_of_ble_eq_true rfl) (fun z A h _ F => ?_)
  show Snd z 2 g A (QF z g A mkU) 0 [(0, .int x0), (1, .int x1)] [] h (bd (if x0 < 0 then none else if x0 < x1 then some (x0, h) else none) (fun _ h2 => some ((), h2)))
  refine s_iload_n F dJ0_checkIndex_df160_0 rfl 0 rfl ?_
  refine s_iload_n F dJ0_checkIndex_df160_1 rfl 1 rfl ?_
  refine s_form F m411 dJ0_checkIndex_df160_2 (fun w hw => ?_)
  refine s_callSi (f := fun hh => if x0 < 0 then none else if x0 < x1 then some (x0, hh) else none) (As := [.int x0, .int x1, w]) F ys_J3_checkIndex_8e157 (ct_J3_checkIndex_8e157 z.2.1 g x0 x1 hw) (by decide) m413 rfl rfl (Nat.le_of_ble_eq_true rfl) dJ0_checkIndex_df160_5 (fun v h2 _ => ?_)
  refine s_pop F dJ0_checkIndex_df160_8 rfl ?_
  exact s_vret F dJ0_checkIndex_df160_9
def f_J1_charAt (r0 : Nat) (x1 : Int32) (h : AH) : Option (Int32 × AH) := bd (bd (if x1 < 0 then none else if x1 < Int32.ofNat (ksl.getD r0 0) then some (x1, h) else none) (fun _ h2 => some ((), h2))) (fun _ h3 => ck x1 (ksl.getD r0 0) (some (((((ksb.getD r0 []).getD x1.toNatClampNeg 0) &&& 255).toUInt32 % 65536).toInt32, h3)))
theorem ct_J1_charAt_3b067 (l : Launch) (g : GC) {r0 : Nat} (hr0 : r0 < 8) (x1 : Int32) : Ct l yJ1_charAt_3b067 cJ1_charAt_3b067 2 (some .char) 3 [.ref (gV g r0), .int x1] g mkI (fun h => f_J1_charAt r0 x1 h) := by
  refine Ct.of (by decide +kernel) (Nat.le_of_ble_eq_true rfl) (fun z A h _ F => ?_)
  show Snd z 2 g A (QF z g A mkI) 0 [(0, .ref (gV g r0)), (1, .int x1)] [] h (f_J1_charAt r0 x1 h)
  unfold f_J1_charAt
  refine s_iload_n F dJ1_charAt_3b067_0 rfl 1 rfl ?_
  refine s_aload_n F dJ1_charAt_3b067_1 rfl 0 rfl ?_
  refine s_klen F hr0 dJ1_charAt_3b067_2 ?_
  refine s_callSu (f := fun hh => bd (if x1 < 0 then none else if x1 < Int32.ofNat (ksl.getD r0 0) then some (x1, hh) else none) (fun _ h2 => some ((), h2))) (As := [.int x1, .int (Int32.ofNat (ksl.getD r0 0))]) F ys_J0_checkIndex_df160 (ct_J0_checkIndex_df160 z.2.1 g x1 (Int32.ofNat (ksl.getD r0 0))) (by decide) m408 rfl rfl (Nat.le_of_ble_eq_true rfl) dJ1_charAt_3b067_3 (fun _ h2 _ => ?_)
  refine s_aload_n F dJ1_charAt_3b067_6 rfl 0 rfl ?_
  refine s_iload_n F dJ1_charAt_3b067_7 rfl 1 rfl ?_
  refine s_kld F hr0 dJ1_charAt_3b067_8 ?_
  refine s_sipush F (v := 255) dJ1_charAt_3b067_9 (by decide) ?_
  refine s_iand F dJ1_charAt_3b067_12 ?_
  refine s_i2c F dJ1_charAt_3b067_13 ?_
  exact s_nret F (pk_nc _) dJ1_charAt_3b067_14
def f_J0_charAt_5068e (r0 : Nat) (x1 : Int32) (h : AH) : Option (Int32 × AH) := bd (some ((1 : Int32), h)) (fun v h2 => if v = 0 then none else bd (f_J1_charAt r0 x1 h2) (fun v2 h3 => if narrow .char (.int v2) = .int v2 then some (v2, h3) else none))
theorem ct_J0_charAt_5068e (l : Launch) (g : GC) {r0 : Nat} (hr0 : r0 < 8) (x1 : Int32) : Ct l yJ0_charAt_5068e cJ0_charAt_5068e 2 (some .char) 4 [.ref (gK g r0), .int x1] g mkI (fun h => f_J0_charAt_5068e r0 x1 h) := by
  refine Ct.of (by decide +kernel) (Nat.le_of_ble_eq_true rfl) (fun z A h _ F => ?_)
  show Snd z 2 g A (QF z g A mkI) 0 [(0, .ref (gK g r0)), (1, .int x1)] [] h (f_J0_charAt_5068e r0 x1 h)
  unfold f_J0_charAt_5068e
  refine s_aload_n F dJ0_charAt_5068e_0 rfl 0 rfl ?_
  refine s_callK (f := fun hh => some (1, hh)) (As := []) F yv_J0_isLatin1_aae02 (ct_J0_isLatin1_aae02 z.2.1 g hr0) (by decide) m401 hr0 rfl rfl rfl (Nat.le_of_ble_eq_true rfl) dJ0_charAt_5068e_1 (fun v h2 _ => ?_)
  refine s_if_eq F 16 dJ0_charAt_5068e_4 (by decide) (fun _ => s_none) (fun _ => ?_)
  refine s_aload_n F dJ0_charAt_5068e_7 rfl 0 rfl ?_
  refine s_strV F hr0 m1337 dJ0_charAt_5068e_8 ?_
  refine s_iload_n F dJ0_charAt_5068e_11 rfl 1 rfl ?_
  refine s_callSi (f := fun hh => f_J1_charAt r0 x1 hh) (As := [.ref (gV g r0), .int x1]) F ys_J1_charAt_3b067 (ct_J1_charAt_3b067 z.2.1 g hr0 x1) (by decide) m405 rfl rfl (Nat.le_of_ble_eq_true rfl) dJ0_charAt_5068e_12 (fun v2 h3 _ => ?_)
  by_cases hn : narrow .char (.int v2) = .int v2
  · rw [if_pos hn]
    exact s_nret F hn dJ0_charAt_5068e_15
  · rw [if_neg hn]
    exact s_none

