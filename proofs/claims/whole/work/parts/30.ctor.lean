/-! ===== the same lists, made step by step ===== -/
def fldR (ad : Nat → Nat) (h : AH) (r : Nat) : List (Option (Nat × Sh)) → Nat → List Value
  | [], _ => []
  | o :: l, k => fldOf ad h r k o :: fldR ad h r l (k + 1)
def cellR (ad : Nat → Nat) (tc : Nat → ClassId) (h : AH) (r : Nat) (sh : Sh) : va_E := match sh with
  | .inl c => .inr (c, fldR ad h r (cfl c) 0)
  | .inr q => .inl (tc q.1, q.2, .inl (h r))
def concR (ad : Nat → Nat) (tc : Nat → ClassId) (h : AH) : List Sh → Nat → va_W
  | [], _ => []
  | sh :: l, r => (ad r, cellR ad tc h r sh) :: concR ad tc h l (r + 1)
theorem fldR_get (ad : Nat → Nat) (h : AH) (r : Nat) : ∀ (l : List (Option (Nat × Sh))) (n k : Nat), (fldR ad h r l n)[k]? = l[k]?.map (fun o => fldOf ad h r (n + k) o)
  | [], _, _ => by simp [fldR]
  | o :: l, n, 0 => by simp [fldR]
  | o :: l, n, k + 1 => by
    simp only [fldR, List.getElem?_cons_succ]
    rw [fldR_get ad h r l (n + 1) k, show n + 1 + k = n + (k + 1) by omega]
theorem cellR_eq (ad : Nat → Nat) (tc : Nat → ClassId) (h : AH) (r : Nat) (sh : Sh) : cellOf ad tc h r sh = cellR ad tc h r sh := by
  cases sh with
  | inr q => rfl
  | inl c =>
    simp only [cellOf, cellR]
    congr 2
    apply List.ext_getElem?
    intro k
    rw [fldR_get, List.getElem?_mapIdx, Nat.zero_add]
theorem concR_get (ad : Nat → Nat) (tc : Nat → ClassId) (h : AH) : ∀ (l : List Sh) (n k : Nat), (concR ad tc h l n)[k]? = l[k]?.map (fun sh => (ad (n + k), cellR ad tc h (n + k) sh))
  | [], _, _ => by simp [concR]
  | o :: l, n, 0 => by simp [concR]
  | o :: l, n, k + 1 => by
    simp only [concR, List.getElem?_cons_succ]
    rw [concR_get ad tc h l (n + 1) k, show n + 1 + k = n + (k + 1) by omega]
theorem conc_eq (l : List Sh) (ad : Nat → Nat) (tc : Nat → ClassId) (h : AH) : conc l ad tc h = concR ad tc h l 0 := by
  apply List.ext_getElem?
  intro k
  rw [concR_get, conc, List.getElem?_mapIdx, Nat.zero_add]
  cases l[k]? with
  | none => rfl
  | some sh => simp [cellR_eq]
/-! ===== constructors: worlds that grow, cell by cell ===== -/
def Fg (z : MC) (cc : ByteArray) (nL : Nat) (own : String) (g : GC) (A : Nat → Prop) (R0 : Room) (rt : Option FieldType) (ini : Prop) : Prop :=
  z.1.tables.exec = Jvm.exec ∧ (zc z).code = cc ∧ (zc z).maxLocals = nL ∧ (zs z).vm.findClass own = some (zm z).cls ∧ (∀ w ∈ WL, w.before (za z) (zs z) = true) ∧ va_K (gD g) vwCl (tys g) (zs z) ∧ EV g A (zs z) ∧ (∀ q, (zs z).heap.size ≤ q → A q) ∧ (zme z).sig.returnType = rt ∧ (zme z).locks = false ∧ zR z = R0 ∧ ini
abbrev Fc (z : MC) (cc : ByteArray) (nL : Nat) (own : String) (g : GC) (A : Nat → Prop) (R0 : Room) : Prop := Fg z cc nL own g A R0 none ((zme z).name = "<init>")
def Cnd (z : MC) (nL : Nat) (g : GC) (A : Nat → Prop) (Qs : State → Prop) (pc : Nat) (lv : List (Nat × Value)) (st : List Value) (ws : va_W) (cells slots : Nat) : Prop :=
  ∀ (ls : Array Slot) (H : Heap) (locs : List Loc), lv_has ls nL lv → va_P (gD g) vwCl ws H → va_D A ws → va_S A (zs z).heap H locs → W z.1 z.2.1 z.2.2.1 (zR z) (zs z) (zm z) (za z) (zb z) (zme z) (zc z) H locs cells slots Qs (F0 (zm z) pc ls st)
/-- a constructor's contract: from the bare object to the cells of a layout -/
def Cc (l : Launch) (y : MethodName) (cd : ByteArray) (R0 : Room) (g : GC) (ci : Nat) (fs : List Value) (lam : List Sh) (h0 : AH) (mc ms : Nat) : Prop :=
  ∀ (a0 sz : Nat), Met l y (.code y cd 1 none :: WL) R0 (va_Pc [.ref a0] (fun U => U.heap.size = sz ∧ va_P (gD g) vwCl [(a0, .inr (ci, fs))] U.heap ∧ va_K (gD g) vwCl (tys g) U ∧ va_D (fun _ => True) [(a0, .inr (ci, fs))] ∧ EV g (va_A [(a0, .inr (ci, fs))] sz) U)) (va_Qv (fun ad : Nat → Nat => ad 0 = a0) (fun ad t => va_P (gD g) vwCl (conc lam ad (gtc g) h0) t.heap ∧ va_D (va_A [(a0, .inr (ci, fs))] sz) (conc lam ad (gtc g) h0)) (va_A [(a0, .inr (ci, fs))] sz)) mc ms (va_A [(a0, .inr (ci, fs))] sz)
section MX
variable {z : MC} {cc : ByteArray} {nL : Nat} {own : String} {g : GC} {A : Nat → Prop} {R0 : Room} {Qs : State → Prop} {pc : Nat} {lv : List (Nat × Value)} {st : List Value} {ws : va_W} {cells slots : Nat}
theorem c_ws {ws' : va_W} (he : ws = ws') (k : Cnd z nL g A Qs pc lv st ws' cells slots) : Cnd z nL g A Qs pc lv st ws cells slots := by rw [he]; exact k
theorem c_wide {k n : Nat} (h1 : cells ≤ k) (h2 : slots ≤ n) (kk : Cnd z nL g A Qs pc lv st ws k n) : Cnd z nL g A Qs pc lv st ws cells slots := fun ls H locs hl hP hD hS => W.widen h1 h2 (kk ls H locs hl hP hD hS)
theorem c_aload {rt : Option FieldType} {ini : Prop} (F : Fg z cc nL own g A R0 rt ini) {kf : Fin 4} {i x : Nat} (d : decode cc pc = .ok (.aload_n kf, 1)) (hi : (kf : Nat) = i) (j : Nat) (hj : lv[j]? = some (i, .ref x)) (k : Cnd z nL g A Qs (pc + 1) lv (.ref x :: st) ws cells slots) : Cnd z nL g A Qs pc lv st ws cells slots := fun ls H locs hl hP hD hS => lv_aload_n F.1 F.2.1 d hi (lv_at hl j hj) (k ls H locs hl hP hD hS)
theorem c_bipush {rt : Option FieldType} {ini : Prop} (F : Fg z cc nL own g A R0 rt ini) {n : Int} {v : Int32} (d : decode cc pc = .ok (.bipush n, 2)) (hv : (Int8.ofInt n).toInt32 = v) (k : Cnd z nL g A Qs (pc + 2) lv (.int v :: st) ws cells slots) : Cnd z nL g A Qs pc lv st ws cells slots := fun ls H locs hl hP hD hS => lv_bipush F.1 F.2.1 d hv (k ls H locs hl hP hD hS)
theorem c_sipush {rt : Option FieldType} {ini : Prop} (F : Fg z cc nL own g A R0 rt ini) {n : Int} {v : Int32} (d : decode cc pc = .ok (.sipush n, 3)) (hv : (Int16.ofInt n).toInt32 = v) (k : Cnd z nL g A Qs (pc + 3) lv (.int v :: st) ws cells slots) : Cnd z nL g A Qs pc lv st ws cells slots := fun ls H locs hl hP hD hS => lv_sipush F.1 F.2.1 d hv (k ls H locs hl hP hD hS)
theorem c_iconst {rt : Option FieldType} {ini : Prop} (F : Fg z cc nL own g A R0 rt ini) {n : Int} {v : Int32} (d : decode cc pc = .ok (.iconst n, 1)) (hv : Int32.ofInt n = v) (k : Cnd z nL g A Qs (pc + 1) lv (.int v :: st) ws cells slots) : Cnd z nL g A Qs pc lv st ws cells slots := fun ls H locs hl hP hD hS => lv_iconst F.1 F.2.1 d hv (k ls H locs hl hP hD hS)
theorem c_dup {rt : Option FieldType} {ini : Prop} (F : Fg z cc nL own g A R0 rt ini) {v : Value} (d : decode cc pc = .ok (.dup, 1)) (hv : v.category = 1) (k : Cnd z nL g A Qs (pc + 1) lv (v :: v :: st) ws cells slots) : Cnd z nL g A Qs pc lv (v :: st) ws cells slots := fun ls H locs hl hP hD hS => lv_dup F.1 F.2.1 d hv (k ls H locs hl hP hD hS)
theorem c_new {rt : Option FieldType} {ini : Prop} (F : Fg z cc nL own g A R0 rt ini) {ci : Nat} {C : String} {T : u_T} {N : Nat} {ty : Nat → FieldType} (I : CI ci C T N ty) {fs : List Value} {index : Nat} (hcl : Cond.classLink own index C ∈ WL) (hinst : Cond.instantiable C N ∈ WL) (hini : Cond.initialized C ∈ WL) (hfs : ∀ j, j < N → defaultValue (ty j) = vp_V fs j) (hc : cells + 1 ≤ R0.cells) (hs : slots + N ≤ R0.slots) (d : decode cc pc = .ok (.new index, 3))
    (k : ∀ q : Nat, Cnd z nL g A Qs (pc + 3) lv (.ref q :: st) (ws ++ [(q, .inr (ci, fs))]) (cells + 1) (slots + N)) : Cnd z nL g A Qs pc lv st ws cells slots := by
  intro ls H locs hl hP hD hS
  obtain ⟨hx, hb, hml, hown, hts, hK, hE, hA, -, -, hR, -⟩ := id F
  exact va_new (ci := ci) (fs := fs) hx hb hts I.2.1 ty I.2.2.1 hown (hts _ hcl) (hts _ hinst) (hts _ hini) hK hP hD hS hA I.1 hfs (by rw [hR]; exact hc) (by rw [hR]; exact hs) d (fun q H1 hP1 hD1 hS1 => k q ls H1 locs hl hP1 hD1 hS1)
theorem tc_eq {t : Nat} {ty : FieldType} {cA : ClassId} {U : State} (ht : (tys g)[t]? = some (gtc g t, ty)) (hro : ∀ C, ty ≠ .object C) (h : va_K (gD g) vwCl (tys g ++ [(cA, ty)]) U) : cA = gtc g t := by
  have h1 := (h.2 t _ (by rw [List.getElem?_append_left (by have := (List.getElem?_eq_some_iff.mp ht).1; exact this)]; exact ht)).2
  have h2 := (h.2 3 (cA, ty) rfl).2
  have e1 : U.vm.findClass ("[" ++ ty.toString) = some (gtc g t) := by
    cases ty <;> first | exact h1 | exact absurd rfl (hro _)
  have e2 : U.vm.findClass ("[" ++ ty.toString) = some cA := by
    cases ty <;> first | exact h2 | exact absurd rfl (hro _)
  exact Option.some.inj (e2.symm.trans e1)
theorem c_newa {rt : Option FieldType} {ini : Prop} (F : Fg z cc nL own g A R0 rt ini) (t : Nat) {ty : FieldType} (ht : (tys g)[t]? = some (gtc g t, ty)) (hro : ∀ C, ty ≠ .object C) {atype : ArrayType} (hty : newarray.typeOf atype = ty) (harr : Cond.arrayClass (newarray.typeOf atype) ∈ WL) {n : Int32} {N : Nat} (ha : ∀ cA : ClassId, vp_cell cA (N, .inl (fun _ => 0)) = arrV cA N (fun _ => defaultValue ty)) (hn : ¬ n < 0) (hN : n.toNatClampNeg = N) (hby : N * componentBytes ty ≤ 536870912) (hc : cells + 1 ≤ R0.cells) (hs : slots + N ≤ R0.slots) (d : decode cc pc = .ok (.newarray atype, 2))
    (k : ∀ q : Nat, Cnd z nL g A Qs (pc + 2) lv (.ref q :: st) (ws ++ [(q, .inl (gtc g t, N, .inl (fun _ => 0)))]) (cells + 1) (slots + N)) : Cnd z nL g A Qs pc lv (.int n :: st) ws cells slots := by
  intro ls H locs hl hP hD hS
  obtain ⟨hx, hb, hml, hown, hts, hK, hE, hA, -, -, hR, -⟩ := id F
  refine va_newa (a0 := (N, .inl (fun _ => 0))) hx hb (hts _ harr) hty hK hP hD hS hA ha hn hN hby (by rw [hR]; exact hc) (by rw [hR]; exact hs) d (fun q cA H1 hK1 hP1 hD1 hS1 => ?_)
  have e := tc_eq ht hro hK1
  subst e
  exact k q ls H1 locs hl hP1 hD1 hS1
theorem c_putF (F : Fc z cc nL own g A R0) {ci : Nat} {C : String} {T : u_T} {N : Nat} {ty : Nat → FieldType} (I : CI ci C T N ty) (q0 k : Nat) {a : Nat} {fs : List Value} {v : Value} {tt : FieldType} {index : Nat} (he : ws[q0]? = some (a, .inr (ci, fs))) (hk : k < N) (hC : (T k).1 = C) (hoC : C = own) (hfin : (T k).2.2.2 = true) (hty : ty k = tt) (hn : narrow tt v = v) (hfit : fits tt v = true) (hlen : k < fs.length) (hl : Cond.fieldLink own index C (T k).2.1 (T k).2.2.1 ∈ WL) (d : decode cc pc = .ok (.putfield index, 3))
    (kk : Cnd z nL g A Qs (pc + 3) lv st (ws.set q0 (a, .inr (ci, fs.set k v))) cells slots) : Cnd z nL g A Qs pc lv (v :: .ref a :: st) ws cells slots := by
  intro ls H locs hlv hP hD hS
  obtain ⟨hx, hb, hml, hown, hts, hK, hE, hA, -, -, hR, hin⟩ := id F
  have hd := I.2.2.1 k hk
  rw [hty] at hd
  exact va_putF (D := gD g) (ci := ci) (v := v) (ty := tt) (C := C) (T := T) (N := N) hx hb hts I.2.1 ty I.2.2.1 I.2.2.2 hown hK hP hD hS q0 he I.1 k hk (hts _ hl) (fun x hx9 => by rw [← hC]; exact hx9) hfin hin (hC.trans hoC) hd hn hfit hlen d (fun H1 locs1 hP1 hD1 hS1 => kk ls H1 locs1 hlv hP1 hD1 hS1)
theorem c_iast {rt : Option FieldType} {ini : Prop} (F : Fg z cc nL own g A R0 rt ini) (q0 j : Nat) {a n : Nat} {f : Nat → Int32} {i v : Int32} (hj : i.toNatClampNeg = j) (he : ws[q0]? = some (a, .inl (gtc g 0, n, .inl f))) (hin : vp_in i n) (d : decode cc pc = .ok (.iastore, 1))
    (kk : Cnd z nL g A Qs (pc + 1) lv st (ws.set q0 (a, .inl (gtc g 0, n, .inl (upd f j v)))) cells slots) : Cnd z nL g A Qs pc lv (.int v :: .int i :: .ref a :: st) ws cells slots := by
  subst hj
  exact fun ls H locs hlv hP hD hS => va_iast F.1 F.2.1 F.2.2.2.2.2.1 hP hD hS q0 0 he rfl hin d (fun H1 locs1 hP1 hD1 hS1 => kk ls H1 locs1 hlv hP1 hD1 hS1)
theorem c_obj {rt : Option FieldType} {ini : Prop} (F : Fg z cc nL own g A R0 rt ini) {index x : Nat} (hm : Cond.methodLink own index objectInit ∈ WL) (hi : Cond.instanceMethod objectInit ∈ WL) (hcd : Cond.code objectInit ⟨#[0xb1]⟩ 1 none ∈ WL) (hf : 1 ≤ R0.frames) (hlo : 12 ≤ R0.locals) (hst : st = []) (d : decode cc pc = .ok (.invokespecial index, 3))
    (k : Cnd z nL g A Qs (pc + 3) lv st ws cells slots) : Cnd z nL g A Qs pc lv (.ref x :: st) ws cells slots := by
  subst hst
  intro ls H locs hl hP hD hS
  obtain ⟨hx, hb, hml, hown, hts, hK, hE, hA, -, -, hR, -⟩ := id F
  exact W.objInit hx hb hown (hts _ hm) (hts _ hi) (hts _ hcd) rfl (by rw [hml]; exact hl.1) rfl d (by rw [hR]; exact hf) (by rw [hR]; exact hlo) (k ls H locs hl hP hD hS)
theorem c_ret (F : Fc z cc nL own g A R0) {a0 sz mc ms : Nat} {ci : Nat} {fs : List Value} {lam : List Sh} {h0 : AH} (ad : Nat → Nat) (h1 : cells ≤ mc) (h2 : slots ≤ ms) (h3 : ad 0 = a0) (hw : ws = concR ad (gtc g) h0 lam 0) (hAe : A = va_A [(a0, .inr (ci, fs))] sz) (d : decode cc pc = .ok (.return_, 1)) :
    Cnd z nL g A (MQ (zb z) (va_Qv (fun ad : Nat → Nat => ad 0 = a0) (fun ad t => va_P (gD g) vwCl (conc lam ad (gtc g) h0) t.heap ∧ va_D (va_A [(a0, .inr (ci, fs))] sz) (conc lam ad (gtc g) h0)) (va_A [(a0, .inr (ci, fs))] sz)) (za z) (zs z) mc ms (va_A [(a0, .inr (ci, fs))] sz)) pc lv [] ws cells slots := by
  intro ls H locs hl hP hD hS
  obtain ⟨hx, hb, hml, hown, hts, hK, hE, hA, hr, hlk, hR, -⟩ := id F
  rw [← conc_eq] at hw
  subst hw
  subst hAe
  refine W.widen h1 h2 ?_
  exact W.vret hx hb hr (fun t ht _ => ⟨⟨ad, rfl, h3, by rw [ht]; exact hP, hD⟩, hS.F ht⟩) hS.2.2 d (hlocks := hlk)
theorem Cc.of {l : Launch} {y : MethodName} {cd : ByteArray} {R0 : Room} {g : GC} {ci : Nat} {fs : List Value} {lam : List Sh} {h0 : AH} {mc ms : Nat} (hy : plainName y.cls = true) (hnm : y.name = "<init>")
    (body : ∀ (z : MC) (a0 sz : Nat) (A : Nat → Prop), z.2.1 = l → A = va_A [(a0, .inr (ci, fs))] sz → Fc z cd 1 y.cls g A R0 → Cnd z 1 g A (MQ (zb z) (va_Qv (fun ad : Nat → Nat => ad 0 = a0) (fun ad t => va_P (gD g) vwCl (conc lam ad (gtc g) h0) t.heap ∧ va_D (va_A [(a0, .inr (ci, fs))] sz) (conc lam ad (gtc g) h0)) (va_A [(a0, .inr (ci, fs))] sz)) (za z) (zs z) mc ms (va_A [(a0, .inr (ci, fs))] sz)) 0 [(0, .ref a0)] [] [(a0, .inr (ci, fs))] 0 0) : Cc l y cd R0 g ci fs lam h0 mc ms := by
  intro a0 sz
  refine Met.ofW (cc := cd) (maxL := 1) (ret := none) hy rfl ?_
  intro p e s m args below meth c s₁ B hml hv
  obtain ⟨rfl, hsz, hP, hK, hD0, hE⟩ := hv
  subst hsz
  have hts := atoms_spec (ws := .code y cd 1 none :: WL) B.pre
  have hl := lv_entry [.ref a0] (n := 1) (Nat.le_of_ble_eq_true rfl)
  rw [lg_entry_eq]
  exact body (p, l, e, _, s, m, [.ref a0].toArray, below, meth, c) a0 s.heap.size (va_A [(a0, .inr (ci, fs))] s.heap.size) rfl rfl ⟨B.exec, B.bytes, hml, findClass_of_methodNamed B.named, fun w hw => hts w (List.mem_cons_of_mem _ hw), hK, hE, fun q hq => Or.inr hq, B.returns, B.notSynchronized, rfl, ((name_of_methodNamed B.named B.method).1).trans hnm⟩ _ _ _ hl hP hD0.self va_S.rf
/-- a constructor is called on the object that was made last; its cells come in that one's place -/
theorem c_call {rt : Option FieldType} {ini : Prop} (F : Fg z cc nL own g A R0 rt ini) {y : MethodName} {cd : ByteArray} {R1 : Room} {ci : Nat} {fs : List Value} {lam : List Sh} {h0 : AH} {index b : Nat} (hC : Cc z.2.1 y cd R1 g ci fs lam h0 R1.cells R1.slots) (hin : Cond.instanceMethod y ∈ WL) (hini : Cond.initialized y.cls ∈ WL) (hcd : Cond.code y cd 1 none ∈ WL) (hlk : (own, index, y) ∈ nestM ∨ Cond.methodLink own index y ∈ WL) (hy : y.name = "<init>") (hd : y.cls ≠ "java/lang/invoke/MethodHandle" ∧ y.cls ≠ "java/lang/invoke/VarHandle" ∧ (parseMethodDescriptor y.desc).map (fun d => d.parameters.length) = some 0) (hfr : R1.frames + 1 ≤ R0.frames) (hlo : 20 + R1.locals ≤ R0.locals) (hce : cells + R1.cells ≤ R0.cells) (hsl : slots + R1.slots ≤ R0.slots) (hws : ws = ws.take (ws.length - 1) ++ [(b, .inr (ci, fs))]) (hroom : (st.map fun v => v.category).sum ≤ 8) (d : decode cc pc = .ok (.invokespecial index, 3))
    (kk : ∀ ad : Nat → Nat, ad 0 = b → Cnd z nL g A Qs (pc + 3) lv st (ws.take (ws.length - 1) ++ concR ad (gtc g) h0 lam 0) (cells + R1.cells) (slots + R1.slots)) : Cnd z nL g A Qs pc lv (.ref b :: st) ws cells slots := by
  simp only [← conc_eq] at kk
  intro ls H locs hl hP hD hS
  obtain ⟨hx, hb, hml, hown, hts, hK, hE, hA, -, -, hR, -⟩ := id F
  generalize hwr : ws.take (ws.length - 1) = wr at hws kk
  subst hws
  have hPc : va_P (gD g) vwCl [(b, .inr (ci, fs))] H := fun k q hk => hP (wr.length + k) q (by rw [List.getElem?_append_right (Nat.le_add_right _ _), Nat.add_sub_cancel_left]; exact hk)
  have hPr : va_P (gD g) vwCl wr H := fun k q hk => hP k q (by rw [List.getElem?_append_left (List.getElem?_eq_some_iff.mp hk).1]; exact hk)
  have hAb : A b := hD.2 wr.length (b, .inr (ci, fs)) (by rw [List.getElem?_append_right (Nat.le_refl _), Nat.sub_self]; rfl)
  have hDc : va_D (fun _ => True) [(b, .inr (ci, fs))] := by
    refine ⟨fun i j p q hi hj _ => ?_, fun _ _ _ => trivial⟩
    have h1 : i < 1 := (List.getElem?_eq_some_iff.mp hi).1
    have h2 : j < 1 := (List.getElem?_eq_some_iff.mp hj).1
    omega
  have hsub : ∀ q, va_A [(b, .inr (ci, fs))] H.size q → A q := by
    intro q hq
    rcases hq with ⟨k, e, hk⟩ | hq
    · have h1 : k < 1 := (List.getElem?_eq_some_iff.mp hk).1
      have h2 : k = 0 := by omega
      subst h2
      cases hk
      exact hAb
    · exact hA q (Nat.le_trans hS.1 hq)
  have hp : FrameBlind (va_Pc [.ref b] (fun U => U.heap.size = H.size ∧ va_P (gD g) vwCl [(b, .inr (ci, fs))] U.heap ∧ va_K (gD g) vwCl (tys g) U ∧ va_D (fun _ => True) [(b, .inr (ci, fs))] ∧ EV g (va_A [(b, .inr (ci, fs))] H.size) U)) ∧ ∀ U : State, U.heap = H → (zs z).WarmedH U.vm → va_Pc [.ref b] (fun U => U.heap.size = H.size ∧ va_P (gD g) vwCl [(b, .inr (ci, fs))] U.heap ∧ va_K (gD g) vwCl (tys g) U ∧ va_D (fun _ => True) [(b, .inr (ci, fs))] ∧ EV g (va_A [(b, .inr (ci, fs))] H.size) U) [.ref b].toArray U := by
    refine ⟨fun a U f mk q => ?_, fun U hU hW => ⟨rfl, by rw [hU], by rw [hU]; exact hPc, va_K.moved hW.alike hK, hDc, hE.call hS hU hW hsub⟩⟩
    obtain ⟨q0, q1, qP, qK, qD, qE⟩ := q
    exact ⟨q0, q1, qP, va_K.moved (u := U) (U := U.calling f mk a) (Vm.Alike.refl U.vm) qK, qD, qE.frame⟩
  have hM := hC b H.size
  have hrun : va_Run z.1 z.2.1 z.2.2.1 (zR z) (zs z) (zm z) (za z) (zb z) (zme z) (zc z) H locs cells slots R1.cells R1.slots (F0 (zm z) pc ls (.ref b :: st)) st ((va_Qv (fun ad : Nat → Nat => ad 0 = b) (fun ad t => va_P (gD g) vwCl (conc lam ad (gtc g) h0) t.heap ∧ va_D (va_A [(b, .inr (ci, fs))] H.size) (conc lam ad (gtc g) h0)) (va_A [(b, .inr (ci, fs))] H.size)) [.ref b].toArray) (va_A [(b, .inr (ci, fs))] H.size) := by
    rcases hlk with hlk | hlk
    · exact va_runIN (n := 0) (As := []) (rest := st) (b := b) (bytes := cd) (maxL := 1) (nL := nL) (host := "ArchTrades") ⟨hx, hb, hml, hown, hts⟩ hM ⟨va_cnB 0 hts (wl_goodIn hcd) rfl rfl rfl (hE.1 _ hlk) (hts _ hini) hd ⟨by rw [hR]; exact hfr, by rw [hR]; exact hlo⟩, hy, hts _ hin⟩ hp rfl rfl hl.1 rfl (lv_room hroom) d ⟨by rw [hR]; exact hce, by rw [hR]; exact hsl⟩
    · exact va_runI (n := 0) (As := []) (rest := st) (b := b) (bytes := cd) (maxL := 1) (nL := nL) ⟨hx, hb, hml, hown, hts⟩ hM ⟨callB_of 0 hts (wl_goodIn hcd) rfl rfl rfl (hts _ hini) (hts _ hlk) hd ⟨by rw [hR]; exact hfr, by rw [hR]; exact hlo⟩, hy, hts _ hin⟩ hp rfl rfl hl.1 rfl (lv_room hroom) d ⟨by rw [hR]; exact hce, by rw [hR]; exact hsl⟩
  refine va_callv hrun hS (fun q _ hq => hsub q hq) hsub (fun ad t H1 locs1 ht hvm had hB hz1 hk1 hS1 => ?_)
  obtain ⟨hP1, hD1⟩ := hB
  rw [ht] at hP1
  have hold : ∀ (k : Nat) (q : Nat × va_E), wr[k]? = some q → q.1 < H.size ∧ ¬ va_A [(b, .inr (ci, fs))] H.size q.1 := by
    intro k q hk
    refine ⟨(hPr k q hk).lt, fun hq => ?_⟩
    rcases hq with ⟨k2, e, hk2⟩ | hq
    · have h1 : k2 < 1 := (List.getElem?_eq_some_iff.mp hk2).1
      have h2 : k2 = 0 := by omega
      subst h2
      have e1 : b = q.1 := by cases hk2; rfl
      have hkl := (List.getElem?_eq_some_iff.mp hk).1
      have := hD.1 k wr.length q (b, .inr (ci, fs)) (by rw [List.getElem?_append_left hkl]; exact hk) (by rw [List.getElem?_append_right (Nat.le_refl _), Nat.sub_self]; rfl) e1.symm
      omega
    · have := (hPr k q hk).lt
      omega
  have hPr1 : va_P (gD g) vwCl wr H1 := hPr.kept (fun k q hk => hk1 q.1 (hold k q hk).1 (hold k q hk).2)
  have hDr : va_D A wr := ⟨fun i j p q hi hj e => hD.1 i j p q (by rw [List.getElem?_append_left (List.getElem?_eq_some_iff.mp hi).1]; exact hi) (by rw [List.getElem?_append_left (List.getElem?_eq_some_iff.mp hj).1]; exact hj) e, fun k q hk => hD.2 k q (by rw [List.getElem?_append_left (List.getElem?_eq_some_iff.mp hk).1]; exact hk)⟩
  exact kk ad had ls H1 locs1 hl (hPr1.app hP1) (hDr.app (hD1.weaken (fun _ q _ w => hsub q.1 w)) (fun i j p q hi hj e => (hold i p hi).2 (by rw [e]; exact hD1.2 j q hj))) hS1
theorem c_astore {rt : Option FieldType} {ini : Prop} (F : Fg z cc nL own g A R0 rt ini) {kf : Fin 4} {i x : Nat} {lv' : List (Nat × Value)} (d : decode cc pc = .ok (.astore_n kf, 1)) (hi : (kf : Nat) = i) (hn : i < nL) (he : (i, Value.ref x) :: lv.filter (fun q => !(q.1 == i) && !(q.1 + 1 == i && q.2.category == 2)) = lv') (k : Cnd z nL g A Qs (pc + 1) lv' st ws cells slots) : Cnd z nL g A Qs pc lv (.ref x :: st) ws cells slots := fun _ H locs hl hP hD hS => lv_astore_n F.1 F.2.1 d hi hl hn he (fun ls' hl' => k ls' H locs hl' hP hD hS)
theorem c_istore {rt : Option FieldType} {ini : Prop} (F : Fg z cc nL own g A R0 rt ini) {kf : Fin 4} {i : Nat} {x : Int32} {lv' : List (Nat × Value)} (d : decode cc pc = .ok (.istore_n kf, 1)) (hi : (kf : Nat) = i) (hn : i < nL) (he : (i, Value.int x) :: lv.filter (fun q => !(q.1 == i) && !(q.1 + 1 == i && q.2.category == 2)) = lv') (k : Cnd z nL g A Qs (pc + 1) lv' st ws cells slots) : Cnd z nL g A Qs pc lv (.int x :: st) ws cells slots := fun _ H locs hl hP hD hS => lv_istore_n F.1 F.2.1 d hi hl hn he (fun ls' hl' => k ls' H locs hl' hP hD hS)
end MX
