/-! ===== the law from its entry, open in Rel ===== -/
theorem conc_at {lam : List Sh} {ad : Nat → Nat} {tc : Nat → ClassId} {h : AH} {i : Nat} (hi : i < lam.length) : (conc lam ad tc h)[i]? = some (ad i, cellOf ad tc h i lam[i]) := conc_get (List.getElem?_eq_getElem hi)
theorem conc_len (lam : List Sh) (ad : Nat → Nat) (tc : Nat → ClassId) (h : AH) : (conc lam ad tc h).length = lam.length := by simp [conc]
set_option maxRecDepth 20000 in
set_option maxHeartbeats 4000000 in
theorem start_open {Rel : AH → AH → Prop} (hB : Both Rel) (hRel : Rel hz7 hz8) {p : Program} {e : Env} {s : State} {m : MethodId} {below : List Frame} {meth : Method} {c : Code} (l : Launch) {b L : Nat} {xs : Nat → Int32} (hL : L ≤ 3072) (C0 : lw_At p s m meth c b L xs) : W p l e room_1 s m #[Value.ref b] below meth c s.heap [] 0 0 (lw_Z below #[Value.ref b] s) (entryFrame m ([Value.ref b] : List Value).toArray 4) := by
  obtain ⟨hx, hb, hr, hml, hown, hts, hX, hbl, hlocks, hgv⟩ := id C0
  have htw : ∀ w ∈ WL, w.before #[Value.ref b] s = true := fun w h => hts w (wl_in h)
  obtain ⟨c0, i0, hk0⟩ := u_known (C := RX0) (T := TX0) (N := 6) (n := 6) htw inW0 (htw _ m162)
  obtain ⟨c1, i1, hk1⟩ := u_known (C := RX1) (T := TX1) (N := 2) (n := 2) htw inW1 (htw _ m227)
  obtain ⟨c2, i2, hk2⟩ := u_known (C := RX2) (T := TX2) (N := 15) (n := 15) htw inW2 (htw _ m73)
  obtain ⟨c3, i3, hk3⟩ := u_known (C := RX3) (T := TX3) (N := 11) (n := 11) htw inW3 (htw _ m187)
  obtain ⟨c4, i4, hk4⟩ := u_known (C := RX4) (T := TX4) (N := 2) (n := 2) htw inW4 (htw _ m67)
  obtain ⟨c5, i5, hk5⟩ := u_known (C := RX5) (T := TX5) (N := 3) (n := 3) htw inW5 (htw _ m27)
  obtain ⟨c6, i6, hk6⟩ := u_known (C := RX6) (T := TX6) (N := 5) (n := 5) htw inW6 (htw _ m44)
  obtain ⟨c7, i7, hk7⟩ := u_known (C := RX7) (T := TX7) (N := 11) (n := 11) htw inW7 (htw _ m19)
  obtain ⟨c8, i8, hk8⟩ := u_known (C := RX8) (T := TX8) (N := 34) (n := 34) htw inW8 (htw _ m888)
  obtain ⟨t0, ha0, hb0⟩ := arr_known (ty := .int) (htw _ m42) (fun _ h => by cases h)
  obtain ⟨t1, ha1, hb1⟩ := arr_known (ty := .byte) (htw _ m65) (fun _ h => by cases h)
  obtain ⟨t2, ha2, hb2⟩ := arr_known (ty := .boolean) (htw _ m996) (fun _ h => by cases h)
  obtain ⟨tA, adK, adV, hEV⟩ := ev_start hts hgv
  obtain ⟨dC, dI, hcl⟩ : ∃ (dC : Nat → ClassId) (dI : Nat → Nat → Nat), ∀ (k : Nat) (q : vw_C), vwCl[k]? = some q → u_Kn s q.1 q.2.1 q.2.2 (dC k) (dI k) := by
    refine ⟨fun k => if k = 0 then c0 else if k = 1 then c1 else if k = 2 then c2 else if k = 3 then c3 else if k = 4 then c4 else if k = 5 then c5 else if k = 6 then c6 else if k = 7 then c7 else c8, fun k => if k = 0 then i0 else if k = 1 then i1 else if k = 2 then i2 else if k = 3 then i3 else if k = 4 then i4 else if k = 5 then i5 else if k = 6 then i6 else if k = 7 then i7 else i8, ?_⟩
    intro k q hq
    match k, hq with
    | 0, hq => cases hq; exact hk0
    | 1, hq => cases hq; exact hk1
    | 2, hq => cases hq; exact hk2
    | 3, hq => cases hq; exact hk3
    | 4, hq => cases hq; exact hk4
    | 5, hq => cases hq; exact hk5
    | 6, hq => cases hq; exact hk6
    | 7, hq => cases hq; exact hk7
    | 8, hq => cases hq; exact hk8
    | k + 9, hq => simp [vwCl] at hq
  obtain ⟨tc, htc⟩ : ∃ tc : Nat → ClassId, tc 0 = t0 ∧ tc 1 = t1 ∧ tc 2 = t2 := ⟨fun k => if k = 0 then t0 else if k = 1 then t1 else t2, rfl, rfl, rfl⟩
  obtain ⟨rfl, rfl, rfl⟩ := htc
  have hK : ∀ (La : List Sh) (ad : Nat → Nat), va_K (gD (dC, dI, tc, La, ad, tA, adK, adV)) vwCl (tys (dC, dI, tc, La, ad, tA, adK, adV)) s := by
    intro La ad
    refine ⟨hcl, fun k q hq => ?_⟩
    match k, hq with
    | 0, hq => cases hq; exact ⟨ha0, hb0⟩
    | 1, hq => cases hq; exact ⟨ha1, hb1⟩
    | 2, hq => cases hq; exact ⟨ha2, hb2⟩
    | k + 3, hq => simp [tys] at hq
  have hA : ∀ q : Nat, s.heap.size ≤ q → (fun q : Nat => s.heap.size ≤ q) q := fun _ h => h
  have F : Fg (p, l, e, room_1, s, m, #[Value.ref b], below, meth, c) code 4 RL (dC, dI, tc, [], (fun _ => 0), tA, adK, adV) (fun q : Nat => s.heap.size ≤ q) room_1 ret True := ⟨hx, hb, hml, hown, htw, hK _ _, hEV _ rfl rfl rfl, hA, hr, hlocks, rfl, trivial⟩
  have hl := lv_entry ([.ref b]) (n := 4) (Nat.le_of_ble_eq_true rfl)
  rw [lg_entry_eq]
  suffices G : Cnd (p, l, e, room_1, s, m, #[Value.ref b], below, meth, c) 4 (dC, dI, tc, [], (fun _ => 0), tA, adK, adV) (fun q : Nat => s.heap.size ≤ q) (lw_Z below #[Value.ref b] s) 0 [(0, .ref b)] [] [] 0 0 from G _ _ _ hl (fun k q h => by simp at h) ⟨fun i j p q h => by simp at h, fun k q h => by simp at h⟩ va_S.rf
  refine c_new F ciX7 (fs := fz7) m18 m19 m1 fz7_ok (by decide) (by decide) dL_law_0 (fun q1 => ?_)
  refine c_dup F dL_law_3 rfl ?_
  refine c_call F (cc_X7 l (dC, dI, tc, [], (fun _ => 0), tA, adK, adV)) m21 m1 m22 (Or.inr m20) rfl ⟨by decide +kernel, by decide +kernel, by decide +kernel⟩ (by decide) (by decide) (by decide) (by decide) rfl (Nat.le_of_ble_eq_true rfl) dL_law_4 (fun u1 e1 => ?_)
  refine c_ws (ws' := conc lam7 u1 tc hz7) (by rw [conc_eq]; rfl) ?_
  rw [← e1]
  refine c_astore F (lv' := [(1, .ref (u1 0)), (0, .ref b)]) dL_law_7 rfl (by decide) rfl ?_
  refine c_new F ciX8 (fs := fz8) m887 m888 m9 fz8_ok (by decide) (by decide) dL_law_8 (fun q2 => ?_)
  refine c_dup F dL_law_11 rfl ?_
  refine c_call F (cc_X8 l (dC, dI, tc, [], (fun _ => 0), tA, adK, adV)) m890 m9 m891 (Or.inr m889) rfl ⟨by decide +kernel, by decide +kernel, by decide +kernel⟩ (by decide) (by decide) (by decide) (by decide) (by simp) (Nat.le_of_ble_eq_true rfl) dL_law_12 (fun u2 e2 => ?_)
  refine c_ws (ws' := conc lam7 u1 tc hz7 ++ conc lam8 u2 tc hz8) (by rw [conc_eq lam8]; simp; rfl) ?_
  rw [← e2]
  refine c_astore F (lv' := [(2, .ref (u2 0)), (1, .ref (u1 0)), (0, .ref b)]) dL_law_15 rfl (by decide) rfl ?_
  refine c_iconst F (v := nI 0) dL_law_16 (by decide) ?_
  refine c_istore F (lv' := [(3, .int (nI 0)), (2, .ref (u2 0)), (1, .ref (u1 0)), (0, .ref b)]) dL_law_17 rfl (by decide) rfl ?_
  intro ls H locs hl hP hD hS
  have hn7 : lam7.length = 60 := rfl
  have hn8 : lam8.length = 19 := rfl
  have g7 : ∀ i, i < 60 → (conc lam7 u1 tc hz7 ++ conc lam8 u2 tc hz8)[i]? = (conc lam7 u1 tc hz7)[i]? := fun i hi => List.getElem?_append_left (by rw [conc_len, hn7]; exact hi)
  have g8 : ∀ i, (conc lam7 u1 tc hz7 ++ conc lam8 u2 tc hz8)[60 + i]? = (conc lam8 u2 tc hz8)[i]? := fun i => by
    rw [List.getElem?_append_right (by rw [conc_len, hn7]; omega), conc_len, hn7, Nat.add_sub_cancel_left]
  have hi7 : Inj (dC, dI, tc, lam7, u1, tA, adK, adV) := by
    intro i j hi hj eij
    exact hD.1 i j (u1 i, _) (u1 j, _) ((g7 i hi).trans (conc_at hi)) ((g7 j hj).trans (conc_at hj)) eij
  have hi8 : Inj (dC, dI, tc, lam8, u2, tA, adK, adV) := by
    intro i j hi hj eij
    have := hD.1 (60 + i) (60 + j) (u2 i, _) (u2 j, _) ((g8 i).trans (conc_at hi)) ((g8 j).trans (conc_at hj)) eij
    omega
  have hap : ∀ i j, i < 60 → j < 19 → u1 i ≠ u2 j := by
    intro i j hi hj eij
    have := hD.1 i (60 + j) (u1 i, _) (u2 j, _) ((g7 i hi).trans (conc_at hi)) ((g8 j).trans (conc_at hj)) eij
    omega
  have hA7 : ∀ r, r < 60 → s.heap.size ≤ u1 r := fun r hr => hD.2 r (u1 r, _) ((g7 r hr).trans (conc_at hr))
  have hA8 : ∀ r, r < 19 → s.heap.size ≤ u2 r := fun r hr => hD.2 (60 + r) (u2 r, _) ((g8 r).trans (conc_at hr))
  have FF : FL (p, l, e, room_1, s, m, #[Value.ref b], below, meth, c) (dC, dI, tc, lam7, u1, tA, adK, adV) (dC, dI, tc, lam8, u2, tA, adK, adV) (fun q : Nat => s.heap.size ≤ q) b L xs := ⟨hx, hb, hml, hown, htw, rfl, hA, ⟨hK _ _, wf7, hEV _ rfl rfl rfl, hi7, hA7⟩, ⟨hK _ _, wf8, hEV _ rfl rfl rfl, hi8, hA8⟩, hap, hX, hbl, Nat.not_le.mpr hbl⟩
  have hP7 : va_P (dC, dI) vwCl (conc lam7 u1 tc hz7) H := fun k q hk => hP k q ((g7 k (by have := (List.getElem?_eq_some_iff.mp hk).1; rw [conc_len, hn7] at this; exact this)).trans hk)
  have hP8 : va_P (dC, dI) vwCl (conc lam8 u2 tc hz8) H := fun k q hk => hP (60 + k) q ((g8 k).trans hk)
  exact law_loop FF hr hlocks hL rfl rfl hB (L + 1) 0 (by omega) (by omega) hz7 hz8 hRel ls H locs (lv_sub hl [3, 2, 1, 0] rfl) hP7 hP8 hS
