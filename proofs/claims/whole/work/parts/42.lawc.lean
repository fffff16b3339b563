/-! ===== the start: what the Statement gives ===== -/
theorem nestM_in : ∀ q ∈ nestM, Cond.methodLinkNest q.1 q.2.1 q.2.2 "ArchTrades" ∈ lw_tbl := List.forall_mem_cons.mpr ⟨in3 (List.mem_of_getElem? (i := 184) (by decide +kernel)), List.forall_mem_cons.mpr ⟨in3 (List.mem_of_getElem? (i := 90) (by decide +kernel)), List.forall_mem_cons.mpr ⟨in3 (List.mem_of_getElem? (i := 112) (by decide +kernel)), List.forall_mem_cons.mpr ⟨in4 (List.mem_of_getElem? (i := 3) (by decide +kernel)), List.forall_mem_cons.mpr ⟨in4 (List.mem_of_getElem? (i := 18) (by decide +kernel)), List.forall_mem_cons.mpr ⟨in1 (List.mem_of_getElem? (i := 28) (by decide +kernel)), List.forall_mem_cons.mpr ⟨in1 (List.mem_of_getElem? (i := 45) (by decide +kernel)), List.forall_mem_cons.mpr ⟨in1 (List.mem_of_getElem? (i := 68) (by decide +kernel)), List.forall_mem_cons.mpr ⟨in1 (List.mem_of_getElem? (i := 74) (by decide +kernel)), List.forall_mem_cons.mpr ⟨in1 (List.mem_of_getElem? (i := 160) (by decide +kernel)), List.forall_mem_cons.mpr ⟨in1 (List.mem_of_getElem? (i := 163) (by decide +kernel)), List.forall_mem_cons.mpr ⟨in1 (List.mem_of_getElem? (i := 188) (by decide +kernel)), List.forall_mem_cons.mpr ⟨in1 (List.mem_of_getElem? (i := 228) (by decide +kernel)), List.forall_mem_nil _⟩⟩⟩⟩⟩⟩⟩⟩⟩⟩⟩⟩⟩
theorem nestF_in : ∀ q ∈ nestF, Cond.fieldLinkNest q.1 q.2.1 q.2.2.1 q.2.2.2.1 q.2.2.2.2 "ArchTrades" ∈ lw_tbl := List.forall_mem_cons.mpr ⟨in1 (List.mem_of_getElem? (i := 84) (by decide +kernel)), List.forall_mem_cons.mpr ⟨in1 (List.mem_of_getElem? (i := 96) (by decide +kernel)), List.forall_mem_cons.mpr ⟨in1 (List.mem_of_getElem? (i := 91) (by decide +kernel)), List.forall_mem_cons.mpr ⟨in1 (List.mem_of_getElem? (i := 88) (by decide +kernel)), List.forall_mem_cons.mpr ⟨in1 (List.mem_of_getElem? (i := 80) (by decide +kernel)), List.forall_mem_cons.mpr ⟨in1 (List.mem_of_getElem? (i := 106) (by decide +kernel)), List.forall_mem_cons.mpr ⟨in1 (List.mem_of_getElem? (i := 109) (by decide +kernel)), List.forall_mem_cons.mpr ⟨in1 (List.mem_of_getElem? (i := 117) (by decide +kernel)), List.forall_mem_cons.mpr ⟨in1 (List.mem_of_getElem? (i := 98) (by decide +kernel)), List.forall_mem_cons.mpr ⟨in1 (List.mem_of_getElem? (i := 113) (by decide +kernel)), List.forall_mem_cons.mpr ⟨in1 (List.mem_of_getElem? (i := 93) (by decide +kernel)), List.forall_mem_cons.mpr ⟨in1 (List.mem_of_getElem? (i := 95) (by decide +kernel)), List.forall_mem_cons.mpr ⟨in1 (List.mem_of_getElem? (i := 90) (by decide +kernel)), List.forall_mem_cons.mpr ⟨in1 (List.mem_of_getElem? (i := 111) (by decide +kernel)), List.forall_mem_cons.mpr ⟨in1 (List.mem_of_getElem? (i := 115) (by decide +kernel)), List.forall_mem_cons.mpr ⟨in4 (List.mem_of_getElem? (i := 91) (by decide +kernel)), List.forall_mem_cons.mpr ⟨in1 (List.mem_of_getElem? (i := 101) (by decide +kernel)), List.forall_mem_cons.mpr ⟨in1 (List.mem_of_getElem? (i := 82) (by decide +kernel)), List.forall_mem_cons.mpr ⟨in1 (List.mem_of_getElem? (i := 86) (by decide +kernel)), List.forall_mem_cons.mpr ⟨in1 (List.mem_of_getElem? (i := 112) (by decide +kernel)), List.forall_mem_cons.mpr ⟨in1 (List.mem_of_getElem? (i := 116) (by decide +kernel)), List.forall_mem_cons.mpr ⟨in1 (List.mem_of_getElem? (i := 119) (by decide +kernel)), List.forall_mem_cons.mpr ⟨in1 (List.mem_of_getElem? (i := 79) (by decide +kernel)), List.forall_mem_cons.mpr ⟨in1 (List.mem_of_getElem? (i := 100) (by decide +kernel)), List.forall_mem_cons.mpr ⟨in1 (List.mem_of_getElem? (i := 83) (by decide +kernel)), List.forall_mem_cons.mpr ⟨in1 (List.mem_of_getElem? (i := 103) (by decide +kernel)), List.forall_mem_cons.mpr ⟨in1 (List.mem_of_getElem? (i := 105) (by decide +kernel)), List.forall_mem_cons.mpr ⟨in1 (List.mem_of_getElem? (i := 108) (by decide +kernel)), List.forall_mem_cons.mpr ⟨in1 (List.mem_of_getElem? (i := 87) (by decide +kernel)), List.forall_mem_nil _⟩⟩⟩⟩⟩⟩⟩⟩⟩⟩⟩⟩⟩⟩⟩⟩⟩⟩⟩⟩⟩⟩⟩⟩⟩⟩⟩⟩⟩
theorem ls_0 : Cond.laysStatic "ArchTrades" "WEIGHTS" "[I" ∈ lw_tbl := in4 (List.mem_of_getElem? (i := 86) (by decide +kernel))
theorem ls_1 : Cond.laysStatic "ArchTrades" "NEAREST" "[I" ∈ lw_tbl := in4 (List.mem_of_getElem? (i := 116) (by decide +kernel))
theorem ls_2 : Cond.laysStatic "ArchTrades$Asks" "SIZE_BODIES" "[I" ∈ lw_tbl := in4 (List.mem_of_getElem? (i := 132) (by decide +kernel))
theorem ls_3 : Cond.laysStatic "ArchTrades$Asks" "MARK_BODIES" "[I" ∈ lw_tbl := in4 (List.mem_of_getElem? (i := 134) (by decide +kernel))
theorem ls_4 : Cond.laysStatic "java/lang/String" "COMPACT_STRINGS" "Z" ∈ lw_tbl := in2 (List.mem_of_getElem? (i := 156) (by decide +kernel))
theorem ls_5 : Cond.laysStatic "jdk/internal/util/Preconditions" "SIOOBE_FORMATTER" "Ljava/util/function/BiFunction;" ∈ lw_tbl := in2 (List.mem_of_getElem? (i := 172) (by decide +kernel))
theorem sr_0 : Cond.stringRef "ArchTrades$Reader" 44 "tide" ∈ lw_tbl := in2 (List.mem_of_getElem? (i := 142) (by decide +kernel))
theorem sr_1 : Cond.stringRef "ArchTrades$Reader" 68 "arch" ∈ lw_tbl := in2 (List.mem_of_getElem? (i := 224) (by decide +kernel))
theorem sr_2 : Cond.stringRef "ArchTrades$Reader" 90 "boat" ∈ lw_tbl := in2 (List.mem_of_getElem? (i := 236) (by decide +kernel))
theorem sr_3 : Cond.stringRef "ArchTrades$Reader" 118 "barge" ∈ lw_tbl := in3 (List.mem_of_getElem? (i := 5) (by decide +kernel))
theorem sr_4 : Cond.stringRef "ArchTrades$Reader" 120 "cog" ∈ lw_tbl := in3 (List.mem_of_getElem? (i := 6) (by decide +kernel))
theorem sr_5 : Cond.stringRef "ArchTrades$Reader" 122 "raft" ∈ lw_tbl := in3 (List.mem_of_getElem? (i := 7) (by decide +kernel))
theorem sr_6 : Cond.stringRef "ArchTrades$Reader" 124 "cart" ∈ lw_tbl := in3 (List.mem_of_getElem? (i := 8) (by decide +kernel))
theorem sr_7 : Cond.stringRef "ArchTrades$Reader" 126 "wain" ∈ lw_tbl := in3 (List.mem_of_getElem? (i := 9) (by decide +kernel))
def flw : List Cond := flatC (Jvm.Cond.and given_1 narrow_1)
theorem fl_ex : ∀ i, i < 8 → Cond.exactly (Term.string "ArchTrades$Reader" (ksi i).1) "java/lang/String" ∈ flw := by decide +kernel
theorem fl_co : ∀ i, i < 8 → Cond.eq (.field (Term.string "ArchTrades$Reader" (ksi i).1) "java/lang/String" "coder" "B") (.int 0) ∈ flw := by decide +kernel
theorem fl_ar : ∀ i, i < 8 → Cond.arrayOf (.field (Term.string "ArchTrades$Reader" (ksi i).1) "java/lang/String" "value" "[B") .byte ∈ flw := by decide +kernel
theorem fl_le : ∀ i, i < 8 → Cond.eq (.length (.field (Term.string "ArchTrades$Reader" (ksi i).1) "java/lang/String" "value" "[B")) (.int (Int32.ofNat (ksl.getD i 0))) ∈ flw := by decide +kernel
theorem fl_el : ∀ i, i < 8 → ∀ j, j < ksl.getD i 0 → Cond.eq (.elem (.field (Term.string "ArchTrades$Reader" (ksi i).1) "java/lang/String" "value" "[B") (.int (Int32.ofNat j))) (.int ((ksb.getD i []).getD j 0)) ∈ flw := by decide +kernel
theorem fl_ne : ∀ i, i < 8 → ∀ j, j < 8 → i ≠ j → (Cond.not (Cond.eq (Term.string "ArchTrades$Reader" (ksi i).1) (Term.string "ArchTrades$Reader" (ksi j).1))) ∈ flw ∨ (Cond.not (Cond.eq (Term.string "ArchTrades$Reader" (ksi j).1) (Term.string "ArchTrades$Reader" (ksi i).1))) ∈ flw := by decide +kernel
theorem fl_sa : ∀ i, i < 4 → Cond.arrayOf (.static (stc i).1 (stc i).2 "[I") .int ∈ flw := by decide +kernel
theorem fl_sl : ∀ i, i < 4 → Cond.eq (.length (.static (stc i).1 (stc i).2 "[I")) (.int (Int32.ofNat (stv i).length)) ∈ flw := by decide +kernel
theorem fl_se : ∀ i, i < 4 → ∀ j, j < (stv i).length → Cond.eq (.elem (.static (stc i).1 (stc i).2 "[I") (.int (Int32.ofNat j))) (.int ((stv i).getD j 0)) ∈ flw := by decide +kernel
theorem fl_cs : Cond.eq (.static "java/lang/String" "COMPACT_STRINGS" "Z") (.int 1) ∈ flw := by decide +kernel
theorem fl_fm : Cond.isRef (.static "jdk/internal/util/Preconditions" "SIOOBE_FORMATTER" "Ljava/util/function/BiFunction;") ∈ flw := by decide +kernel
theorem st_lay : ∀ i, i < 4 → Cond.laysStatic (stc i).1 (stc i).2 "[I" ∈ lw_tbl := by
  intro i hi
  rcases (show i = 0 ∨ i = 1 ∨ i = 2 ∨ i = 3 by omega) with rfl | rfl | rfl | rfl
  · exact ls_0
  · exact ls_1
  · exact ls_2
  · exact ls_3
theorem st_ini : ∀ i, i < 4 → Cond.initialized (stc i).1 ∈ lw_tbl := by
  intro i hi
  rcases (show i = 0 ∨ i = 1 ∨ i = 2 ∨ i = 3 by omega) with rfl | rfl | rfl | rfl
  · exact wl_in m1
  · exact wl_in m1
  · exact wl_in m8
  · exact wl_in m8
theorem st_str : ∀ i, i < 8 → Cond.stringRef RX4 (ksi i).1 (ksi i).2 ∈ lw_tbl := by
  intro i hi
  rcases (show i = 0 ∨ i = 1 ∨ i = 2 ∨ i = 3 ∨ i = 4 ∨ i = 5 ∨ i = 6 ∨ i = 7 by omega) with rfl | rfl | rfl | rfl | rfl | rfl | rfl | rfl
  · exact sr_0
  · exact sr_1
  · exact sr_2
  · exact sr_3
  · exact sr_4
  · exact sr_5
  · exact sr_6
  · exact sr_7
theorem ev_start {s : State} {args : Array Value} (hts : ∀ w ∈ lw_tbl, w.before args s = true) (hgv : (Jvm.Cond.and given_1 narrow_1).before args s = true) : ∃ tA adK adV : Nat → Nat, ∀ g : GC, gtA g = tA → gK g = adK → gV g = adV → EV g (fun q => s.heap.size ≤ q) s := by
  have hs : ∀ w ∈ flw, w.before args s = true := flat_of_before _ hgv
  have hA : ∀ a : Nat, a < s.heap.size → ¬ (fun q => s.heap.size ≤ q) a := fun a ha h => by
    have : s.heap.size ≤ a := h
    omega
  have h0 : ∀ i : Nat, ∃ t : Nat, i < 4 → va_Z (stc i).1 (stc i).2 "[I" (.ref t) (fun q => s.heap.size ≤ q) s s.heap ∧ va_T .int t (stv i).length (fun j => .int ((stv i).getD j 0)) (fun q => s.heap.size ≤ q) s s.heap := by
    intro i
    by_cases hi : i < 4
    · have hN : (stv i).length < 2 ^ 31 := by
        rcases (show i = 0 ∨ i = 1 ∨ i = 2 ∨ i = 3 by omega) with rfl | rfl | rfl | rfl <;> decide
      obtain ⟨t, ht, hT⟩ := va_Tof (A := fun q => s.heap.size ≤ q) (f := fun j => .int ((stv i).getD j 0)) hN (hs _ (fl_sa i hi)) (va_eqt (hs _ (fl_sl i hi))) (fun j hj => va_eqt (hs _ (fl_se i hi j hj))) hA
      exact ⟨t, fun _ => ⟨va_Zref (hts _ (st_lay i hi)) (hts _ (st_ini i hi)) ht hA, hT⟩⟩
    · exact ⟨0, fun h => absurd h hi⟩
  obtain ⟨tA, htA⟩ := Classical.axiomOfChoice h0
  obtain ⟨adK, adV, hS, hev⟩ := vk_Sof (N := 8) (tm := fun i => Term.string "ArchTrades$Reader" (ksi i).1) (len := ksl) (byt := ksb) (A := fun q => s.heap.size ≤ q) (by decide) (fun i hi => hs _ (fl_ex i hi)) (fun i hi => hs _ (fl_co i hi)) (fun i hi => hs _ (fl_ar i hi)) (fun i hi => hs _ (fl_le i hi)) (fun i hi j hj => hs _ (fl_el i hi j hj)) (fun i j hi hj hij => (fl_ne i hi j hj hij).elim (fun h => Or.inl (hs _ h)) (fun h => Or.inr (hs _ h))) hA
  refine ⟨tA, adK, adV, fun g e1 e2 e3 => ?_⟩
  refine ⟨fun q hq => va_Nw.of rfl (hts _ (nestM_in q hq)), fun q hq => va_Nw.of rfl (hts _ (nestF_in q hq)), fun i hi => ?_, ?_, fun i hi => ?_, ?_, ?_⟩
  · rw [e1]; exact htA i hi
  · rw [e2, e3]; exact hS
  · rw [e2]; exact vk_R.of (hts _ (st_str i hi)) (hev i hi)
  · exact va_Zof (hts _ ls_4) (hts _ (wl_in m12)) (va_eqi (hs _ fl_cs)) hA
  · exact va_Zqof (hts _ ls_5) (hts _ (wl_in m14)) (hs _ fl_fm) hA
theorem arr_known {s : State} {args : Array Value} {ty : FieldType} (h : (Cond.arrayClass ty).before args s = true) (hro : ∀ C, ty ≠ .object C) : ∃ cA : ClassId, ArrOfT s cA ty ∧ va_RA s cA ty := by
  obtain ⟨cA, kA, comp, hfind, hk, hkind⟩ := Cond.arrayClass_spec h
  refine ⟨cA, fun n z => ⟨fun k h => (by cases h), kA, hk, comp, hkind⟩, ?_⟩
  cases ty <;> first | exact hfind | exact absurd rfl (hro _)
theorem wf7 : wfL lam7 := by
  have h : (List.range 60).all (fun r => match lam7[r]? with
    | some (.inl c) => (List.range 40).all (fun k => match (cfl c)[k]? with
      | some (some q) => decide (lam7[r + q.1]? = some q.2)
      | _ => true)
    | _ => true) = true := by decide +kernel
  intro r c hr k d sh hk
  have hr60 : r < 60 := (List.getElem?_eq_some_iff.mp hr).1
  have h1 := List.all_eq_true.mp h r (List.mem_range.mpr hr60)
  rw [hr] at h1
  have hk40 : k < 40 := by
    have hkl := (List.getElem?_eq_some_iff.mp hk).1
    have hc : (cfl c).length ≤ 34 := by unfold cfl; split <;> decide
    omega
  have h2 := List.all_eq_true.mp h1 k (List.mem_range.mpr hk40)
  rw [hk] at h2
  exact of_decide_eq_true h2
theorem wf8 : wfL lam8 := by
  have h : (List.range 19).all (fun r => match lam8[r]? with
    | some (.inl c) => (List.range 40).all (fun k => match (cfl c)[k]? with
      | some (some q) => decide (lam8[r + q.1]? = some q.2)
      | _ => true)
    | _ => true) = true := by decide +kernel
  intro r c hr k d sh hk
  have hr60 : r < 19 := (List.getElem?_eq_some_iff.mp hr).1
  have h1 := List.all_eq_true.mp h r (List.mem_range.mpr hr60)
  rw [hr] at h1
  have hk40 : k < 40 := by
    have hkl := (List.getElem?_eq_some_iff.mp hk).1
    have hc : (cfl c).length ≤ 34 := by unfold cfl; split <;> decide
    omega
  have h2 := List.all_eq_true.mp h1 k (List.mem_range.mpr hk40)
  rw [hk] at h2
  exact of_decide_eq_true h2
theorem law_end {p : Program} {l : Launch} {e : Env} {s : State} {m : MethodId} {below : List Frame} {meth : Method} {c : Code} {b L : Nat} {xs : Nat → Int32} {gx gm : GC} {lv : List (Nat × Value)} {hx hm : AH} (F : FL (p, l, e, room_1, s, m, #[Value.ref b], below, meth, c) gx gm (fun q => s.heap.size ≤ q) b L xs) (hr : meth.sig.returnType = ret) (hlocks : meth.locks = false) : Lw (p, l, e, room_1, s, m, #[Value.ref b], below, meth, c) gx gm (fun q => s.heap.size ≤ q) (lw_Z below #[Value.ref b] s) 1040 lv [] hx hm := by
  refine l_iconst F (v := 1) dL_law_1040 (by decide) ?_
  intro ls H locs hl h1 h2 h3
  refine va_forget h3.2.2 (W.widen (k := 600000) (n := 7302250) (by decide) (by decide) ?_)
  exact lw_ret F.1 F.2.1 hr hlocks dL_law_1041
theorem law_loop {p : Program} {l : Launch} {e : Env} {s : State} {m : MethodId} {below : List Frame} {meth : Method} {c : Code} {b L : Nat} {xs : Nat → Int32} {gx gm : GC} (F : FL (p, l, e, room_1, s, m, #[Value.ref b], below, meth, c) gx gm (fun q => s.heap.size ≤ q) b L xs) (hr : meth.sig.returnType = ret) (hlocks : meth.locks = false) (hL : L ≤ 3072) (hox : (gL gx)[0]? = some (.inl 7)) (hom : (gL gm)[0]? = some (.inl 8)) {Rel : AH → AH → Prop} (hB : Both Rel) :
    ∀ (k n : Nat), L + 1 ≤ n + k → n ≤ L + 6 → ∀ hx hm : AH, Rel hx hm → Lw (p, l, e, room_1, s, m, #[Value.ref b], below, meth, c) gx gm (fun q => s.heap.size ≤ q) (lw_Z below #[Value.ref b] s) 18 [(0, .ref b), (1, .ref (gad gx 0)), (2, .ref (gad gm 0)), (3, .int (nI n))] [] hx hm := by
  intro k
  induction k with
  | zero =>
    intro n h1 h2 hx hm hR
    refine l_iload_n F dL_law_18 rfl 3 rfl ?_
    refine l_aload_n F dL_law_19 rfl 0 rfl ?_
    refine l_slen F dL_law_20 ?_
    refine l_bipush F (v := 6) dL_law_21 (by decide) ?_
    refine l_isub F dL_law_23 ?_
    refine l_icmp_gt F 1040 dL_law_24 (by decide) (fun _ => law_end F hr hlocks) (fun hc => ?_)
    exfalso
    apply hc
    have e6 : (6 : Int32) = nI 6 := rfl
    have e1 : (nI L - nI 6).toInt = (L : Int) - 6 := pk_sub_toInt (by omega) (by omega)
    have e2 : (nI n).toInt = (n : Int) := nI_toInt (by omega)
    show Int32.ofNat L - 6 < nI n
    rw [Int32.lt_iff_toInt_lt, e6]
    show (nI L - nI 6).toInt < (nI n).toInt
    rw [e1, e2]
    omega
  | succ k ih =>
    intro n h1 h2 hx hm hR
    refine l_iload_n F dL_law_18 rfl 3 rfl ?_
    refine l_aload_n F dL_law_19 rfl 0 rfl ?_
    refine l_slen F dL_law_20 ?_
    refine l_bipush F (v := 6) dL_law_21 (by decide) ?_
    refine l_isub F dL_law_23 ?_
    refine l_icmp_gt F 1040 dL_law_24 (by decide) (fun _ => law_end F hr hlocks) (fun hc => ?_)
    have e6 : (6 : Int32) = nI 6 := rfl
    have e1 : (nI L - nI 6).toInt = (L : Int) - 6 := pk_sub_toInt (by omega) (by omega)
    have e2 : (nI n).toInt = (n : Int) := nI_toInt (by omega)
    have hnL : n + 6 ≤ L := by
      have hc2 : ¬ ((nI L - nI 6).toInt < (nI n).toInt) := fun q => hc (Int32.lt_iff_toInt_lt.mpr q)
      rw [e1, e2] at hc2
      omega
    have hi0 : vp_in (nI n) L := vp_in_nI (by omega) (by omega)
    have hi1 : vp_in (nI n + 1) L := by rw [show nI n + 1 = nI (n + 1) from nI_add n 1]; exact vp_in_nI (by omega) (by omega)
    have hi2 : vp_in (nI n + 2) L := by rw [show nI n + 2 = nI (n + 2) from nI_add n 2]; exact vp_in_nI (by omega) (by omega)
    have hi3 : vp_in (nI n + 3) L := by rw [show nI n + 3 = nI (n + 3) from nI_add n 3]; exact vp_in_nI (by omega) (by omega)
    have hi4 : vp_in (nI n + 4) L := by rw [show nI n + 4 = nI (n + 4) from nI_add n 4]; exact vp_in_nI (by omega) (by omega)
    have hi5 : vp_in (nI n + 5) L := by rw [show nI n + 5 = nI (n + 5) from nI_add n 5]; exact vp_in_nI (by omega) (by omega)
    refine l_aload_n F dL_law_27 rfl 0 rfl ?_
    refine l_iload_n F dL_law_28 rfl 3 rfl ?_
    refine l_sld F hi0 dL_law_29 ?_
    refine l_bipush F (v := 31) dL_law_30 (by decide) ?_
    refine l_iand F dL_law_32 ?_
    refine lc_switch F hox hom hB hi1 hi2 hi3 hi4 hi5 (fun hx1 hm1 hR1 => ?_) hR _
    refine l_iinc F (v := nI (n + 6)) (lv' := [(3, .int (nI (n + 6))), (0, .ref b), (1, .ref (gad gx 0)), (2, .ref (gad gm 0))]) dL_law_1034 3 rfl (nI_add n 6) (by decide) rfl ?_
    refine l_goto F 18 dL_law_1037 (by decide) ?_
    exact l_sub [1, 2, 3, 0] rfl (ih (n + 6) (by omega) (by omega) hx1 hm1 hR1)

