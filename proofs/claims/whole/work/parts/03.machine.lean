/-! ===== the abstract heap: cell r, place k; layouts; the cells of a world ===== -/
abbrev AH : Type := Nat → Nat → Int32
abbrev Sh : Type := Nat ⊕ (Nat × Nat)
def hput (h : AH) (r : Nat) (f : Nat → Int32) : AH := fun a => if a = r then f else h a
def hset (h : AH) (r k : Nat) (v : Int32) : AH := hput h r (upd (h r) k v)
/-- fields of class c: none is a number, some (d, sh) a reference to the cell d places behind, of shape sh -/
def cfl (c : Nat) : List (Option (Nat × Sh)) := match c with
  | 0 => [some (1, .inr (0, 24)), some (2, .inr (0, 24)), some (3, .inr (0, 24)), some (4, .inr (0, 24)), none, none]
  | 1 => [some (1, .inr (0, 16)), none]
  | 2 => [none, none, none, none, none, none, none, some (1, .inr (0, 12)), some (2, .inr (0, 12)), some (3, .inr (0, 6)), some (4, .inr (0, 6)), some (5, .inr (0, 6)), some (6, .inr (0, 6)), some (7, .inr (0, 24)), some (8, .inr (0, 24))]
  | 3 => [some (1, .inr (0, 36)), some (2, .inr (0, 6)), some (3, .inr (0, 6)), some (4, .inr (0, 6)), some (5, .inr (0, 6)), some (6, .inr (0, 6)), some (7, .inr (0, 6)), some (8, .inr (0, 6)), none, none, none]
  | 4 => [some (1, .inl 2), none]
  | 5 => [some (1, .inr (0, 8)), some (2, .inr (0, 8)), some (3, .inr (0, 320))]
  | 6 => [some (1, .inr (1, 500)), none, none, none, none]
  | 7 => [some (1, .inl 5), some (5, .inl 6), some (7, .inl 4), some (17, .inl 2), some (26, .inl 2), some (35, .inl 2), some (44, .inl 0), some (49, .inl 3), some (58, .inl 1), none, none]
  | _ => [none, none, some (1, .inr (0, 8)), some (2, .inr (0, 8)), some (3, .inr (0, 320)), some (4, .inr (0, 100)), some (5, .inr (0, 100)), none, some (6, .inr (0, 2400)), none, some (7, .inr (0, 500)), none, none, none, none, none, none, none, none, none, some (8, .inr (0, 144)), some (9, .inr (2, 144)), some (10, .inr (2, 144)), some (11, .inr (0, 144)), some (12, .inr (0, 6)), some (13, .inr (0, 6)), none, none, some (14, .inr (0, 6)), some (15, .inr (0, 6)), some (16, .inr (2, 2)), some (17, .inr (0, 200)), some (18, .inr (0, 16)), none]
def fldOf (ad : Nat → Nat) (h : AH) (r k : Nat) (o : Option (Nat × Sh)) : Value := match o with
  | none => .int (h r k)
  | some q => .ref (ad (r + q.1))
def cellOf (ad : Nat → Nat) (tc : Nat → ClassId) (h : AH) (r : Nat) (sh : Sh) : va_E := match sh with
  | .inl c => .inr (c, (cfl c).mapIdx (fun k o => fldOf ad h r k o))
  | .inr q => .inl (tc q.1, q.2, .inl (h r))
def conc (La : List Sh) (ad : Nat → Nat) (tc : Nat → ClassId) (h : AH) : va_W := La.mapIdx (fun r sh => (ad r, cellOf ad tc h r sh))
def wfL (La : List Sh) : Prop := ∀ (r c : Nat), La[r]? = some (.inl c) → ∀ (k d : Nat) (sh : Sh), (cfl c)[k]? = some (some (d, sh)) → La[r + d]? = some sh
theorem conc_get {La : List Sh} {ad : Nat → Nat} {tc : Nat → ClassId} {h : AH} {r : Nat} {sh : Sh} (hr : La[r]? = some sh) : (conc La ad tc h)[r]? = some (ad r, cellOf ad tc h r sh) := by
  simp [conc, List.getElem?_mapIdx, hr]
theorem hput_self (h : AH) (r : Nat) (f : Nat → Int32) : hput h r f r = f := by simp [hput]
theorem hput_ne (h : AH) {r a : Nat} (f : Nat → Int32) (n : a ≠ r) : hput h r f a = h a := by simp [hput, n]
theorem conc_set {La : List Sh} {ad : Nat → Nat} {tc : Nat → ClassId} {h : AH} {r : Nat} {sh : Sh} {f : Nat → Int32} {e : va_E} (hr : La[r]? = some sh) (he : cellOf ad tc (hput h r f) r sh = e) : (conc La ad tc h).set r (ad r, e) = conc La ad tc (hput h r f) := by
  apply List.ext_getElem?
  intro k
  rw [List.getElem?_set]
  by_cases hk : r = k
  · subst hk
    have hl : r < (conc La ad tc h).length := by
      have := (List.getElem?_eq_some_iff.mp hr).1
      simpa [conc] using this
    rw [if_pos rfl, if_pos hl, conc_get hr, he]
  · rw [if_neg hk]
    simp only [conc, List.getElem?_mapIdx]
    cases La[k]? with
    | none => rfl
    | some s2 =>
      have hne : k ≠ r := fun q => hk q.symm
      cases s2 with
      | inl c =>
        simp only [Option.map_some, cellOf]
        congr 5
        funext j o
        cases o <;> simp [fldOf, hput, hne]
      | inr q => simp [cellOf, hput, hne]
theorem conc_setA {La : List Sh} {ad : Nat → Nat} {tc : Nat → ClassId} {h : AH} {r t n : Nat} {f : Nat → Int32} (hr : La[r]? = some (.inr (t, n))) : (conc La ad tc h).set r (ad r, .inl (tc t, n, .inl f)) = conc La ad tc (hput h r f) :=
  conc_set hr (by simp [cellOf, hput])
theorem conc_setO {La : List Sh} {ad : Nat → Nat} {tc : Nat → ClassId} {h : AH} {r c k : Nat} {v : Int32} (hr : La[r]? = some (.inl c)) (hk : (cfl c)[k]? = some none) : (conc La ad tc h).set r (ad r, .inr (c, ((cfl c).mapIdx (fun k o => fldOf ad h r k o)).set k (.int v))) = conc La ad tc (hset h r k v) := by
  refine conc_set hr ?_
  simp only [cellOf]
  congr 2
  apply List.ext_getElem?
  intro j
  rw [List.getElem?_set]
  simp only [List.getElem?_mapIdx, List.length_mapIdx]
  by_cases hj : k = j
  · subst hj
    have hl := (List.getElem?_eq_some_iff.mp hk).1
    rw [if_pos rfl, if_pos hl, hk]
    simp [fldOf, hput, upd]
  · rw [if_neg hj]
    cases (cfl c)[j]? with
    | none => rfl
    | some o =>
      have hne : ¬ j = k := fun q => hj q.symm
      cases o <;> simp [fldOf, hput, upd, hne]
/-! ===== what never changes: static rows, String constants, the words of nest mates ===== -/
/-- classes and slots; array classes; layout; addresses; addresses of the static rows; of the String constants, of their bytes -/
abbrev GC : Type := (Nat → ClassId) × (Nat → Nat → Nat) × (Nat → ClassId) × List Sh × (Nat → Nat) × (Nat → Nat) × (Nat → Nat) × (Nat → Nat)
def gD (g : GC) : va_G := (g.1, g.2.1)
def gtc (g : GC) : Nat → ClassId := g.2.2.1
def gL (g : GC) : List Sh := g.2.2.2.1
def gad (g : GC) : Nat → Nat := g.2.2.2.2.1
def gtA (g : GC) : Nat → Nat := g.2.2.2.2.2.1
def gK (g : GC) : Nat → Nat := g.2.2.2.2.2.2.1
def gV (g : GC) : Nat → Nat := g.2.2.2.2.2.2.2
def gW (g : GC) (h : AH) : va_W := conc (gL g) (gad g) (gtc g) h
def tys (g : GC) : List (ClassId × FieldType) := [(gtc g 0, .int), (gtc g 1, .byte), (gtc g 2, .boolean)]
def gA (g : GC) (sz : Nat) : Nat → Prop := fun q => (∃ r, r < (gL g).length ∧ q = gad g r) ∨ sz ≤ q
def stc (i : Nat) : String × String := match i with
  | 0 => (RX7, "WEIGHTS")
  | 1 => (RX7, "NEAREST")
  | 2 => (RX1, "SIZE_BODIES")
  | _ => (RX1, "MARK_BODIES")
def stv (i : Nat) : List Int32 := match i with
  | 0 => [3, 5, 7, 11]
  | 1 => [-1, 0, 1, 1, 0, 4]
  | 2 => [10, 11, 11, 12, 13, 14]
  | _ => [20, 21, 22, 24, 23, 23]
def ksi (i : Nat) : Nat × String := match i with
  | 0 => (44, "tide")
  | 1 => (68, "arch")
  | 2 => (90, "boat")
  | 3 => (118, "barge")
  | 4 => (120, "cog")
  | 5 => (122, "raft")
  | 6 => (124, "cart")
  | _ => (126, "wain")
def ksb : List (List Int32) := [[116, 105, 100, 101], [97, 114, 99, 104], [98, 111, 97, 116], [98, 97, 114, 103, 101], [99, 111, 103], [114, 97, 102, 116], [99, 97, 114, 116], [119, 97, 105, 110]]
def ksl : List Nat := [4, 4, 4, 5, 3, 4, 4, 4]
def nestM : List (String × Nat × MethodName) := [(RX0, 38, yX7_withBit), (RX2, 71, yX7_bitOf), (RX2, 87, yX7_withBit), (RX3, 108, yX7_withBit), (RX3, 112, yX7_bitOf), (RX7, 9, yX5_init), (RX7, 18, yX6_init), (RX7, 25, yX4_init), (RX4, 11, yX2_init), (RX7, 32, yX2_init), (RX7, 45, yX0_init), (RX7, 52, yX3_init), (RX7, 59, yX1_init)]
def nestF : List (String × Nat × String × String × String) := [("ArchTrades", 139, "ArchTrades$Bridge", "arches", "I"), ("ArchTrades", 156, "ArchTrades$Bridge", "shutArches", "I"), ("ArchTrades", 171, "ArchTrades$Bridge", "hourNow", "I"), ("ArchTrades", 199, "ArchTrades$Bridge", "boats", "I"), ("ArchTrades", 205, "ArchTrades$Bridge", "stands", "Z"), ("ArchTrades", 215, "ArchTrades$Bridge", "heights", "[I"), ("ArchTrades", 219, "ArchTrades$Bridge", "tolls", "[I"), ("ArchTrades", 222, "ArchTrades$Bridge", "masts", "[I"), ("ArchTrades", 225, "ArchTrades$Bridge", "goneBoats", "I"), ("ArchTrades", 268, "ArchTrades$Bridge", "sorts", "[I"), ("ArchTrades", 291, "ArchTrades$Bridge", "tollHad", "I"), ("ArchTrades$Acts", 35, "ArchTrades$Bridge", "shutArches", "I"), ("ArchTrades$Acts", 51, "ArchTrades$Bridge", "hourNow", "I"), ("ArchTrades$Asks", 19, "ArchTrades$Bridge", "sorts", "[I"), ("ArchTrades$Asks", 47, "ArchTrades$Bridge", "masts", "[I"), ("ArchTrades$Bridge", 84, "ArchTrades", "WEIGHTS", "[I"), ("ArchTrades$Foretold", 101, "ArchTrades$Bridge", "tides", "[I"), ("ArchTrades$Foretold", 75, "ArchTrades$Bridge", "arches", "I"), ("ArchTrades$Foretold", 80, "ArchTrades$Bridge", "boats", "I"), ("ArchTrades$Reader", 106, "ArchTrades$Bridge", "sorts", "[I"), ("ArchTrades$Reader", 109, "ArchTrades$Bridge", "masts", "[I"), ("ArchTrades$Reader", 112, "ArchTrades$Bridge", "loads", "[I"), ("ArchTrades$Reader", 40, "ArchTrades$Bridge", "stands", "Z"), ("ArchTrades$Reader", 57, "ArchTrades$Bridge", "tides", "[I"), ("ArchTrades$Reader", 70, "ArchTrades$Bridge", "arches", "I"), ("ArchTrades$Reader", 77, "ArchTrades$Bridge", "charters", "[I"), ("ArchTrades$Reader", 84, "ArchTrades$Bridge", "heights", "[I"), ("ArchTrades$Reader", 87, "ArchTrades$Bridge", "tolls", "[I"), ("ArchTrades$Reader", 92, "ArchTrades$Bridge", "boats", "I")]
def EV (g : GC) (A : Nat → Prop) (U : State) : Prop :=
  (∀ q ∈ nestM, va_Nw (.methodLinkNest q.1 q.2.1 q.2.2 "ArchTrades") U) ∧ (∀ q ∈ nestF, va_Nw (.fieldLinkNest q.1 q.2.1 q.2.2.1 q.2.2.2.1 q.2.2.2.2 "ArchTrades") U) ∧
  (∀ i, i < 4 → va_Z (stc i).1 (stc i).2 "[I" (.ref (gtA g i)) A U U.heap ∧ va_T .int (gtA g i) (stv i).length (fun j => .int ((stv i).getD j 0)) A U U.heap) ∧
  vk_S 8 ksl ksb (gK g) (gV g) A U U.heap ∧ (∀ i, i < 8 → vk_R RX4 (ksi i).1 (ksi i).2 (gK g i) U) ∧ va_Z "java/lang/String" "COMPACT_STRINGS" "Z" (.int 1) A U U.heap ∧ va_Zq "jdk/internal/util/Preconditions" "SIOOBE_FORMATTER" "Ljava/util/function/BiFunction;" A U U.heap
theorem EV.call {g : GC} {A B : Nat → Prop} {s U : State} {H : Heap} {locs : List Loc} (h : EV g A s) (hS : va_S A s.heap H locs) (hU : U.heap = H) (hW : s.WarmedH U.vm) (hB : ∀ q, B q → A q) : EV g B U := by
  obtain ⟨h1, h2, h3, h4, h5, h6, h7⟩ := h
  have hk := hS.2.1
  refine ⟨fun q hq => (h1 q hq).warmM hW, fun q hq => (h2 q hq).warmF hW, fun i hi => ⟨?_, ?_⟩, ?_, fun i hi => (h5 i hi).warm hW, ?_, ?_⟩
  · rw [hU]; exact (((h3 i hi).1.moved hW.alike).kept hk).narrow hB
  · rw [hU]; exact (((h3 i hi).2.moved hW.alike).kept hk).narrow hB
  · rw [hU]; exact ((h4.moved hW.alike).kept hk).narrow hB
  · rw [hU]; exact ((h6.moved hW.alike).kept hk).narrow hB
  · rw [hU]; exact ((h7.moved hW.alike).kept hk).narrow hB
theorem EV.frame {g : GC} {A : Nat → Prop} {U : State} {a : Array Value} {f : JFrame} {mk : MethodId} (h : EV g A U) : EV g A (U.calling f mk a) := by
  obtain ⟨h1, h2, h3, h4, h5, h6, h7⟩ := h
  exact ⟨fun q hq => (h1 q hq).same rfl rfl, fun q hq => (h2 q hq).same rfl rfl, fun i hi => ⟨(h3 i hi).1.moved (Vm.Alike.refl U.vm), (h3 i hi).2.moved (Vm.Alike.refl U.vm)⟩, h4.moved (Vm.Alike.refl U.vm), fun i hi => (h5 i hi).same rfl, h6.moved (Vm.Alike.refl U.vm), h7.moved (Vm.Alike.refl U.vm)⟩
theorem EV.self {g : GC} {A B : Nat → Prop} {U : State} (h : EV g A U) (hB : ∀ q, B q → A q) : EV g B U := by
  obtain ⟨h1, h2, h3, h4, h5, h6, h7⟩ := h
  exact ⟨h1, h2, fun i hi => ⟨(h3 i hi).1.narrow hB, (h3 i hi).2.narrow hB⟩, h4.narrow hB, h5, h6.narrow hB, h7.narrow hB⟩
/-! ===== the judgement: from here the machine ends as the partial function says ===== -/
abbrev MC : Type := Program × Launch × Env × Room × State × MethodId × Array Value × List Frame × Method × Code
abbrev zR (z : MC) : Room := z.2.2.2.1
abbrev zs (z : MC) : State := z.2.2.2.2.1
abbrev zm (z : MC) : MethodId := z.2.2.2.2.2.1
abbrev za (z : MC) : Array Value := z.2.2.2.2.2.2.1
abbrev zb (z : MC) : List Frame := z.2.2.2.2.2.2.2.1
abbrev zme (z : MC) : Method := z.2.2.2.2.2.2.2.2.1
abbrev zc (z : MC) : Code := z.2.2.2.2.2.2.2.2.2
abbrev WW (z : MC) (H : Heap) (locs : List Loc) (Q : State → Prop) (f : JFrame) : Prop := W z.1 z.2.1 z.2.2.1 (zR z) (zs z) (zm z) (za z) (zb z) (zme z) (zc z) H locs 0 0 Q f
def rmL (d : Nat) : Room := { frames := d, cells := 0, slots := 0, locals := 64 * d }
def Wd (g : GC) (A : Nat → Prop) (s : State) (h : AH) (H : Heap) (locs : List Loc) : Prop := va_P (gD g) vwCl (gW g h) H ∧ va_D A (gW g h) ∧ va_S A s.heap H locs
def Fx (z : MC) (cc : ByteArray) (nL : Nat) (own : String) (rt : Option FieldType) (lev : Nat) (g : GC) (A : Nat → Prop) : Prop :=
  z.1.tables.exec = Jvm.exec ∧ (zc z).code = cc ∧ (zc z).maxLocals = nL ∧ (zs z).vm.findClass own = some (zm z).cls ∧ (∀ w ∈ WL, w.before (za z) (zs z) = true) ∧ va_K (gD g) vwCl (tys g) (zs z) ∧ wfL (gL g) ∧ EV g A (zs z) ∧ (∀ q, (zs z).heap.size ≤ q → A q) ∧ (zme z).sig.returnType = rt ∧ (zme z).locks = false ∧ zR z = rmL lev ∧ (∀ r, r < (gL g).length → A (gad g r))
def Snd (z : MC) (nL : Nat) (g : GC) (A : Nat → Prop) {α : Type} (Qf : α → State → Prop) (pc : Nat) (lv : List (Nat × Value)) (st : List Value) (h : AH) (res : Option α) : Prop :=
  ∀ a : α, res = some a → ∀ (ls : Array Slot) (H : Heap) (locs : List Loc), lv_has ls nL lv → Wd g A (zs z) h H locs → WW z H locs (Qf a) (F0 (zm z) pc ls st)
def lt {α : Type} {β : Type} (v : α) (K : α → β) : β := K v
def bd {ρ α : Type} (o : Option (ρ × AH)) (K : ρ → AH → Option α) : Option α := match o with
  | some a => K a.1 a.2
  | none => none
def ck {α : Type} (i : Int32) (n : Nat) (K : Option α) : Option α := if i < 0 ∨ n ≤ i.toNatClampNeg then none else K
def gz {α : Type} (v : Int32) (K : Option α) : Option α := if v = 0 ∨ v = 1 then K else none
def dv {α : Type} (v : Int32) (K : Option α) : Option α := if v = 0 then none else K
def rq (g : GC) (A : Nat → Prop) {ρ : Type} (mk : ρ → Option Value) (a : ρ × AH) : Array Value → State → Outcome → State → Prop := fun _ st oc t => (oc = .returned (mk a.1) ∧ va_P (gD g) vwCl (gW g a.2) t.heap ∧ va_D A (gW g a.2)) ∧ va_F A st t
def QF (z : MC) (g : GC) (A : Nat → Prop) {ρ : Type} (mk : ρ → Option Value) (a : ρ × AH) : State → Prop := MQ (zb z) (rq g A mk a) (za z) (zs z) 0 0 A
def mkI (v : Int32) : Option Value := some (.int v)
def mkL (v : Int64) : Option Value := some (.long v)
def mkR (g : GC) (r : Nat) : Option Value := some (.ref (gad g r))
def mkU (_ : Unit) : Option Value := none
section MS
variable {z : MC} {cc : ByteArray} {nL : Nat} {own : String} {rt : Option FieldType} {lev : Nat} {g : GC} {A : Nat → Prop} {α : Type} {Qf : α → State → Prop} {pc : Nat} {lv : List (Nat × Value)} {st : List Value} {h : AH} {res : Option α}
theorem s_none : Snd z nL g A Qf pc lv st h none := fun _ ha => by cases ha
theorem s_sub {lv' : List (Nat × Value)} (ks : List Nat) (hl : lv_pick lv ks = lv') (k : Snd z nL g A Qf pc lv' st h res) : Snd z nL g A Qf pc lv st h res := fun a ha ls H locs hl2 hw => k a ha ls H locs (lv_sub hl2 ks hl) hw
theorem s_let {β : Type} {v : β} {K : β → Option α} (stf : β → List Value) (lvf : β → List (Nat × Value)) (k : ∀ x : β, Snd z nL g A Qf pc (lvf x) (stf x) h (K x)) : Snd z nL g A Qf pc (lvf v) (stf v) h (lt v K) := k v
theorem s_letH {v : AH} {K : AH → Option α} (k : ∀ x : AH, Snd z nL g A Qf pc lv st x (K x)) : Snd z nL g A Qf pc lv st v (lt v K) := k v
theorem s_iconst (F : Fx z cc nL own rt lev g A) {n : Int} {v : Int32} (d : decode cc pc = .ok (.iconst n, 1)) (hv : Int32.ofInt n = v) (k : Snd z nL g A Qf (pc + 1) lv (.int v :: st) h res) : Snd z nL g A Qf pc lv st h res := fun a ha ls H locs hl hw => lv_iconst F.1 F.2.1 d hv (k a ha ls H locs hl hw)
theorem s_bipush (F : Fx z cc nL own rt lev g A) {n : Int} {v : Int32} (d : decode cc pc = .ok (.bipush n, 2)) (hv : (Int8.ofInt n).toInt32 = v) (k : Snd z nL g A Qf (pc + 2) lv (.int v :: st) h res) : Snd z nL g A Qf pc lv st h res := fun a ha ls H locs hl hw => lv_bipush F.1 F.2.1 d hv (k a ha ls H locs hl hw)
theorem s_sipush (F : Fx z cc nL own rt lev g A) {n : Int} {v : Int32} (d : decode cc pc = .ok (.sipush n, 3)) (hv : (Int16.ofInt n).toInt32 = v) (k : Snd z nL g A Qf (pc + 3) lv (.int v :: st) h res) : Snd z nL g A Qf pc lv st h res := fun a ha ls H locs hl hw => lv_sipush F.1 F.2.1 d hv (k a ha ls H locs hl hw)
theorem s_lconst (F : Fx z cc nL own rt lev g A) {n : Fin 2} {v : Int64} (d : decode cc pc = .ok (.lconst n, 1)) (hv : Int64.ofNat (n : Nat) = v) (k : Snd z nL g A Qf (pc + 1) lv (.long v :: st) h res) : Snd z nL g A Qf pc lv st h res := fun a ha ls H locs hl hw => lv_lconst F.1 F.2.1 d hv (k a ha ls H locs hl hw)
theorem s_ldc (F : Fx z cc nL own rt lev g A) {index : Nat} {v : Int32} (d : decode cc pc = .ok (.ldc index, 2)) (hc : Cond.constant own index v ∈ WL) (k : Snd z nL g A Qf (pc + 2) lv (.int v :: st) h res) : Snd z nL g A Qf pc lv st h res := fun a ha ls H locs hl hw => lv_ldc F.1 F.2.1 F.2.2.2.1 (F.2.2.2.2.1 _ hc) d (k a ha ls H locs hl hw)
theorem s_ldcw (F : Fx z cc nL own rt lev g A) {index : Nat} {v : Int32} (d : decode cc pc = .ok (.ldc_w index, 3)) (hc : Cond.constant own index v ∈ WL) (k : Snd z nL g A Qf (pc + 3) lv (.int v :: st) h res) : Snd z nL g A Qf pc lv st h res := fun a ha ls H locs hl hw => lv_ldcw F.1 F.2.1 F.2.2.2.1 (F.2.2.2.2.1 _ hc) d (k a ha ls H locs hl hw)
theorem s_ldc2 (F : Fx z cc nL own rt lev g A) {index : Nat} {v : Int64} (d : decode cc pc = .ok (.ldc2_w index, 3)) (hc : Cond.constantLong own index v ∈ WL) (k : Snd z nL g A Qf (pc + 3) lv (.long v :: st) h res) : Snd z nL g A Qf pc lv st h res := fun a ha ls H locs hl hw => lv_ldc2 F.1 F.2.1 F.2.2.2.1 (F.2.2.2.2.1 _ hc) d (k a ha ls H locs hl hw)
theorem s_iload_n (F : Fx z cc nL own rt lev g A) {kf : Fin 4} {i : Nat} {x : Int32} (d : decode cc pc = .ok (.iload_n kf, 1)) (hi : (kf : Nat) = i) (j : Nat) (hj : lv[j]? = some (i, .int x)) (k : Snd z nL g A Qf (pc + 1) lv (.int x :: st) h res) : Snd z nL g A Qf pc lv st h res := fun a ha ls H locs hl hw => lv_iload_n F.1 F.2.1 d hi (lv_at hl j hj) (k a ha ls H locs hl hw)
theorem s_iload (F : Fx z cc nL own rt lev g A) {i : Nat} {x : Int32} (d : decode cc pc = .ok (.iload i, 2)) (j : Nat) (hj : lv[j]? = some (i, .int x)) (k : Snd z nL g A Qf (pc + 2) lv (.int x :: st) h res) : Snd z nL g A Qf pc lv st h res := fun a ha ls H locs hl hw => lv_iload F.1 F.2.1 d (lv_at hl j hj) (k a ha ls H locs hl hw)
theorem s_lload_n (F : Fx z cc nL own rt lev g A) {kf : Fin 4} {i : Nat} {x : Int64} (d : decode cc pc = .ok (.lload_n kf, 1)) (hi : (kf : Nat) = i) (j : Nat) (hj : lv[j]? = some (i, .long x)) (k : Snd z nL g A Qf (pc + 1) lv (.long x :: st) h res) : Snd z nL g A Qf pc lv st h res := fun a ha ls H locs hl hw => lv_lload_n F.1 F.2.1 d hi (lv_at hl j hj) (k a ha ls H locs hl hw)
theorem s_lload (F : Fx z cc nL own rt lev g A) {i : Nat} {x : Int64} (d : decode cc pc = .ok (.lload i, 2)) (j : Nat) (hj : lv[j]? = some (i, .long x)) (k : Snd z nL g A Qf (pc + 2) lv (.long x :: st) h res) : Snd z nL g A Qf pc lv st h res := fun a ha ls H locs hl hw => lv_lload F.1 F.2.1 d (lv_at hl j hj) (k a ha ls H locs hl hw)
theorem s_aload_n (F : Fx z cc nL own rt lev g A) {kf : Fin 4} {i x : Nat} (d : decode cc pc = .ok (.aload_n kf, 1)) (hi : (kf : Nat) = i) (j : Nat) (hj : lv[j]? = some (i, .ref x)) (k : Snd z nL g A Qf (pc + 1) lv (.ref x :: st) h res) : Snd z nL g A Qf pc lv st h res := fun a ha ls H locs hl hw => lv_aload_n F.1 F.2.1 d hi (lv_at hl j hj) (k a ha ls H locs hl hw)
theorem s_aload (F : Fx z cc nL own rt lev g A) {i x : Nat} (d : decode cc pc = .ok (.aload i, 2)) (j : Nat) (hj : lv[j]? = some (i, .ref x)) (k : Snd z nL g A Qf (pc + 2) lv (.ref x :: st) h res) : Snd z nL g A Qf pc lv st h res := fun a ha ls H locs hl hw => lv_aload F.1 F.2.1 d (lv_at hl j hj) (k a ha ls H locs hl hw)
theorem s_istore_n (F : Fx z cc nL own rt lev g A) {kf : Fin 4} {i : Nat} {x : Int32} {lv' : List (Nat × Value)} (d : decode cc pc = .ok (.istore_n kf, 1)) (hi : (kf : Nat) = i) (hn : i < nL) (he : (i, Value.int x) :: lv.filter (fun q => !(q.1 == i) && !(q.1 + 1 == i && q.2.category == 2)) = lv') (k : Snd z nL g A Qf (pc + 1) lv' st h res) : Snd z nL g A Qf pc lv (.int x :: st) h res := fun a ha _ H locs hl hw => lv_istore_n F.1 F.2.1 d hi hl hn he (fun ls' hl' => k a ha ls' H locs hl' hw)
theorem s_istore (F : Fx z cc nL own rt lev g A) {i : Nat} {x : Int32} {lv' : List (Nat × Value)} (d : decode cc pc = .ok (.istore i, 2)) (hn : i < nL) (he : (i, Value.int x) :: lv.filter (fun q => !(q.1 == i) && !(q.1 + 1 == i && q.2.category == 2)) = lv') (k : Snd z nL g A Qf (pc + 2) lv' st h res) : Snd z nL g A Qf pc lv (.int x :: st) h res := fun a ha _ H locs hl hw => lv_istore F.1 F.2.1 d hl hn he (fun ls' hl' => k a ha ls' H locs hl' hw)
theorem s_lstore_n (F : Fx z cc nL own rt lev g A) {kf : Fin 4} {i : Nat} {x : Int64} {lv' : List (Nat × Value)} (d : decode cc pc = .ok (.lstore_n kf, 1)) (hi : (kf : Nat) = i) (hn : i + 1 < nL) (he : (i, Value.long x) :: lv.filter (fun q => !(q.1 == i) && (!(q.1 == i + 1) && !(q.1 + 1 == i && q.2.category == 2))) = lv') (k : Snd z nL g A Qf (pc + 1) lv' st h res) : Snd z nL g A Qf pc lv (.long x :: st) h res := fun a ha _ H locs hl hw => lv_lstore_n F.1 F.2.1 d hi hl hn he (fun ls' hl' => k a ha ls' H locs hl' hw)
theorem s_astore_n (F : Fx z cc nL own rt lev g A) {kf : Fin 4} {i x : Nat} {lv' : List (Nat × Value)} (d : decode cc pc = .ok (.astore_n kf, 1)) (hi : (kf : Nat) = i) (hn : i < nL) (he : (i, Value.ref x) :: lv.filter (fun q => !(q.1 == i) && !(q.1 + 1 == i && q.2.category == 2)) = lv') (k : Snd z nL g A Qf (pc + 1) lv' st h res) : Snd z nL g A Qf pc lv (.ref x :: st) h res := fun a ha _ H locs hl hw => lv_astore_n F.1 F.2.1 d hi hl hn he (fun ls' hl' => k a ha ls' H locs hl' hw)
theorem s_iinc (F : Fx z cc nL own rt lev g A) {i : Nat} {n : Int} {x v : Int32} {lv' : List (Nat × Value)} (d : decode cc pc = .ok (.iinc i n, 3)) (j : Nat) (hj : lv[j]? = some (i, .int x)) (hv : x + Int32.ofInt n = v) (hn : i < nL) (he : (i, Value.int v) :: lv.filter (fun q => !(q.1 == i) && !(q.1 + 1 == i && q.2.category == 2)) = lv') (k : Snd z nL g A Qf (pc + 3) lv' st h res) : Snd z nL g A Qf pc lv st h res := fun a ha _ H locs hl hw => lv_iinc F.1 F.2.1 d hl hj hv hn he (fun ls' hl' => k a ha ls' H locs hl' hw)
theorem s_iadd (F : Fx z cc nL own rt lev g A) {x y : Int32} (d : decode cc pc = .ok (.iadd, 1)) (k : Snd z nL g A Qf (pc + 1) lv (.int (x + y) :: st) h res) : Snd z nL g A Qf pc lv (.int y :: .int x :: st) h res := fun a ha ls H locs hl hw => lv_iadd F.1 F.2.1 d (k a ha ls H locs hl hw)
theorem s_isub (F : Fx z cc nL own rt lev g A) {x y : Int32} (d : decode cc pc = .ok (.isub, 1)) (k : Snd z nL g A Qf (pc + 1) lv (.int (x - y) :: st) h res) : Snd z nL g A Qf pc lv (.int y :: .int x :: st) h res := fun a ha ls H locs hl hw => lv_isub F.1 F.2.1 d (k a ha ls H locs hl hw)
theorem s_imul (F : Fx z cc nL own rt lev g A) {x y : Int32} (d : decode cc pc = .ok (.imul, 1)) (k : Snd z nL g A Qf (pc + 1) lv (.int (x * y) :: st) h res) : Snd z nL g A Qf pc lv (.int y :: .int x :: st) h res := fun a ha ls H locs hl hw => lv_imul F.1 F.2.1 d (k a ha ls H locs hl hw)
theorem s_iand (F : Fx z cc nL own rt lev g A) {x y : Int32} (d : decode cc pc = .ok (.iand, 1)) (k : Snd z nL g A Qf (pc + 1) lv (.int (x &&& y) :: st) h res) : Snd z nL g A Qf pc lv (.int y :: .int x :: st) h res := fun a ha ls H locs hl hw => lv_iand F.1 F.2.1 d (k a ha ls H locs hl hw)
theorem s_ior (F : Fx z cc nL own rt lev g A) {x y : Int32} (d : decode cc pc = .ok (.ior, 1)) (k : Snd z nL g A Qf (pc + 1) lv (.int (x ||| y) :: st) h res) : Snd z nL g A Qf pc lv (.int y :: .int x :: st) h res := fun a ha ls H locs hl hw => lv_ior F.1 F.2.1 d (k a ha ls H locs hl hw)
theorem s_ixor (F : Fx z cc nL own rt lev g A) {x y : Int32} (d : decode cc pc = .ok (.ixor, 1)) (k : Snd z nL g A Qf (pc + 1) lv (.int (x ^^^ y) :: st) h res) : Snd z nL g A Qf pc lv (.int y :: .int x :: st) h res := fun a ha ls H locs hl hw => lv_ixor F.1 F.2.1 d (k a ha ls H locs hl hw)
theorem s_ishl (F : Fx z cc nL own rt lev g A) {x y : Int32} (d : decode cc pc = .ok (.ishl, 1)) (k : Snd z nL g A Qf (pc + 1) lv (.int (x <<< (y &&& 31)) :: st) h res) : Snd z nL g A Qf pc lv (.int y :: .int x :: st) h res := fun a ha ls H locs hl hw => lv_ishl F.1 F.2.1 d (k a ha ls H locs hl hw)
theorem s_ishr (F : Fx z cc nL own rt lev g A) {x y : Int32} (d : decode cc pc = .ok (.ishr, 1)) (k : Snd z nL g A Qf (pc + 1) lv (.int (x >>> (y &&& 31)) :: st) h res) : Snd z nL g A Qf pc lv (.int y :: .int x :: st) h res := fun a ha ls H locs hl hw => lv_ishr F.1 F.2.1 d (k a ha ls H locs hl hw)
theorem s_ladd (F : Fx z cc nL own rt lev g A) {x y : Int64} (d : decode cc pc = .ok (.ladd, 1)) (k : Snd z nL g A Qf (pc + 1) lv (.long (x + y) :: st) h res) : Snd z nL g A Qf pc lv (.long y :: .long x :: st) h res := fun a ha ls H locs hl hw => lv_ladd F.1 F.2.1 d (k a ha ls H locs hl hw)
theorem s_lsub (F : Fx z cc nL own rt lev g A) {x y : Int64} (d : decode cc pc = .ok (.lsub, 1)) (k : Snd z nL g A Qf (pc + 1) lv (.long (x - y) :: st) h res) : Snd z nL g A Qf pc lv (.long y :: .long x :: st) h res := fun a ha ls H locs hl hw => lv_lsub F.1 F.2.1 d (k a ha ls H locs hl hw)
theorem s_land (F : Fx z cc nL own rt lev g A) {x y : Int64} (d : decode cc pc = .ok (.land, 1)) (k : Snd z nL g A Qf (pc + 1) lv (.long (x &&& y) :: st) h res) : Snd z nL g A Qf pc lv (.long y :: .long x :: st) h res := fun a ha ls H locs hl hw => lv_land F.1 F.2.1 d (k a ha ls H locs hl hw)
theorem s_lor (F : Fx z cc nL own rt lev g A) {x y : Int64} (d : decode cc pc = .ok (.lor, 1)) (k : Snd z nL g A Qf (pc + 1) lv (.long (x ||| y) :: st) h res) : Snd z nL g A Qf pc lv (.long y :: .long x :: st) h res := fun a ha ls H locs hl hw => lv_lor F.1 F.2.1 d (k a ha ls H locs hl hw)
theorem s_ineg (F : Fx z cc nL own rt lev g A) {x : Int32} (d : decode cc pc = .ok (.ineg, 1)) (k : Snd z nL g A Qf (pc + 1) lv (.int (-x) :: st) h res) : Snd z nL g A Qf pc lv (.int x :: st) h res := fun a ha ls H locs hl hw => lv_ineg F.1 F.2.1 d (k a ha ls H locs hl hw)
theorem s_idiv (F : Fx z cc nL own rt lev g A) {x y : Int32} (d : decode cc pc = .ok (.idiv, 1)) (k : Snd z nL g A Qf (pc + 1) lv (.int (x / y) :: st) h res) : Snd z nL g A Qf pc lv (.int y :: .int x :: st) h (dv y res) := by
  intro a ha ls H locs hl hw
  unfold dv at ha
  split at ha
  · cases ha
  · next hy => exact lv_idiv F.1 F.2.1 d hy (k a ha ls H locs hl hw)
theorem s_irem (F : Fx z cc nL own rt lev g A) {x y : Int32} (d : decode cc pc = .ok (.irem, 1)) (k : Snd z nL g A Qf (pc + 1) lv (.int (x - x / y * y) :: st) h res) : Snd z nL g A Qf pc lv (.int y :: .int x :: st) h (dv y res) := by
  intro a ha ls H locs hl hw
  unfold dv at ha
  split at ha
  · cases ha
  · next hy => exact lv_irem F.1 F.2.1 d hy (k a ha ls H locs hl hw)
theorem s_idivN (F : Fx z cc nL own rt lev g A) {x y : Int32} (d : decode cc pc = .ok (.idiv, 1)) (hy : ¬ y = 0) (k : Snd z nL g A Qf (pc + 1) lv (.int (x / y) :: st) h res) : Snd z nL g A Qf pc lv (.int y :: .int x :: st) h res := fun a ha ls H locs hl hw => lv_idiv F.1 F.2.1 d hy (k a ha ls H locs hl hw)
theorem s_iremN (F : Fx z cc nL own rt lev g A) {x y : Int32} (d : decode cc pc = .ok (.irem, 1)) (hy : ¬ y = 0) (k : Snd z nL g A Qf (pc + 1) lv (.int (x - x / y * y) :: st) h res) : Snd z nL g A Qf pc lv (.int y :: .int x :: st) h res := fun a ha ls H locs hl hw => lv_irem F.1 F.2.1 d hy (k a ha ls H locs hl hw)
theorem s_i2l (F : Fx z cc nL own rt lev g A) {x : Int32} (d : decode cc pc = .ok (.i2l, 1)) (k : Snd z nL g A Qf (pc + 1) lv (.long x.toInt64 :: st) h res) : Snd z nL g A Qf pc lv (.int x :: st) h res := fun a ha ls H locs hl hw => lv_i2l F.1 F.2.1 d rfl (k a ha ls H locs hl hw)
theorem s_l2i (F : Fx z cc nL own rt lev g A) {x : Int64} (d : decode cc pc = .ok (.l2i, 1)) (k : Snd z nL g A Qf (pc + 1) lv (.int x.toInt32 :: st) h res) : Snd z nL g A Qf pc lv (.long x :: st) h res := fun a ha ls H locs hl hw => lv_l2i F.1 F.2.1 d rfl (k a ha ls H locs hl hw)
theorem s_i2b (F : Fx z cc nL own rt lev g A) {x : Int32} (d : decode cc pc = .ok (.i2b, 1)) (k : Snd z nL g A Qf (pc + 1) lv (.int x.toInt8.toInt32 :: st) h res) : Snd z nL g A Qf pc lv (.int x :: st) h res := fun a ha ls H locs hl hw => lv_i2b F.1 F.2.1 d rfl (k a ha ls H locs hl hw)
theorem s_i2s (F : Fx z cc nL own rt lev g A) {x : Int32} (d : decode cc pc = .ok (.i2s, 1)) (k : Snd z nL g A Qf (pc + 1) lv (.int x.toInt16.toInt32 :: st) h res) : Snd z nL g A Qf pc lv (.int x :: st) h res := fun a ha ls H locs hl hw => lv_i2s F.1 F.2.1 d rfl (k a ha ls H locs hl hw)
theorem s_iushr (F : Fx z cc nL own rt lev g A) {x y : Int32} (d : decode cc pc = .ok (.iushr, 1)) (k : Snd z nL g A Qf (pc + 1) lv (.int (x.toUInt32 >>> (y.toUInt32 &&& Int32.toUInt32 31)).toInt32 :: st) h res) : Snd z nL g A Qf pc lv (.int y :: .int x :: st) h res := fun a ha ls H locs hl hw => lv_iushr F.1 F.2.1 d rfl (k a ha ls H locs hl hw)
theorem s_lshl (F : Fx z cc nL own rt lev g A) {x : Int64} {y : Int32} (d : decode cc pc = .ok (.lshl, 1)) (k : Snd z nL g A Qf (pc + 1) lv (.long (x <<< (y.toInt64 &&& 63)) :: st) h res) : Snd z nL g A Qf pc lv (.int y :: .long x :: st) h res := fun a ha ls H locs hl hw => lv_lshl F.1 F.2.1 d rfl (k a ha ls H locs hl hw)
theorem s_lshr (F : Fx z cc nL own rt lev g A) {x : Int64} {y : Int32} (d : decode cc pc = .ok (.lshr, 1)) (k : Snd z nL g A Qf (pc + 1) lv (.long (x >>> (y.toInt64 &&& 63)) :: st) h res) : Snd z nL g A Qf pc lv (.int y :: .long x :: st) h res := fun a ha ls H locs hl hw => lv_lshr F.1 F.2.1 d rfl (k a ha ls H locs hl hw)
theorem s_lcmp (F : Fx z cc nL own rt lev g A) {x y : Int64} (d : decode cc pc = .ok (.lcmp, 1)) (k : Snd z nL g A Qf (pc + 1) lv (.int (lg_cmp x y) :: st) h res) : Snd z nL g A Qf pc lv (.long y :: .long x :: st) h res := fun a ha ls H locs hl hw => W.lcmp F.1 F.2.1 d (k a ha ls H locs hl hw)
theorem s_dup (F : Fx z cc nL own rt lev g A) {v : Value} (d : decode cc pc = .ok (.dup, 1)) (hv : v.category = 1) (k : Snd z nL g A Qf (pc + 1) lv (v :: v :: st) h res) : Snd z nL g A Qf pc lv (v :: st) h res := fun a ha ls H locs hl hw => lv_dup F.1 F.2.1 d hv (k a ha ls H locs hl hw)
theorem s_dup2 (F : Fx z cc nL own rt lev g A) {v w : Value} (d : decode cc pc = .ok (.dup2, 1)) (hv : v.category = 1) (hw2 : w.category = 1) (k : Snd z nL g A Qf (pc + 1) lv (v :: w :: v :: w :: st) h res) : Snd z nL g A Qf pc lv (v :: w :: st) h res := fun a ha ls H locs hl hw => lv_dup2_11 F.1 F.2.1 d hv hw2 (k a ha ls H locs hl hw)
theorem s_pop (F : Fx z cc nL own rt lev g A) {v : Value} (d : decode cc pc = .ok (.pop, 1)) (hv : v.category = 1) (k : Snd z nL g A Qf (pc + 1) lv st h res) : Snd z nL g A Qf pc lv (v :: st) h res := fun a ha ls H locs hl hw => lv_pop F.1 F.2.1 d hv (k a ha ls H locs hl hw)
theorem s_goto (F : Fx z cc nL own rt lev g A) {off : Int} (tgt : Nat) (d : decode cc pc = .ok (.goto off, 3)) (ht : (pc : Int) + off = (tgt : Int)) (k : Snd z nL g A Qf tgt lv st h res) : Snd z nL g A Qf pc lv st h res := fun a ha ls H locs hl hw => lv_goto F.1 F.2.1 d ht (k a ha ls H locs hl hw)
theorem s_if_eq (F : Fx z cc nL own rt lev g A) {x : Int32} {off : Int} {B C : Option α} (tgt : Nat) (d : decode cc pc = .ok (.ifCond .eq off, 3)) (ht : (pc : Int) + off = (tgt : Int)) (kt : x = 0 → Snd z nL g A Qf tgt lv st h B) (kf : ¬ x = 0 → Snd z nL g A Qf (pc + 3) lv st h C) : Snd z nL g A Qf pc lv (.int x :: st) h (if x = 0 then B else C) := by
  intro a ha ls H locs hl hw
  refine lv_if_eq F.1 F.2.1 d ht (fun hc => ?_) (fun hc => ?_)
  · rw [if_pos hc] at ha; exact kt hc a ha ls H locs hl hw
  · rw [if_neg hc] at ha; exact kf hc a ha ls H locs hl hw
theorem s_icmp_eq (F : Fx z cc nL own rt lev g A) {x y : Int32} {off : Int} {B C : Option α} (tgt : Nat) (d : decode cc pc = .ok (.if_icmp .eq off, 3)) (ht : (pc : Int) + off = (tgt : Int)) (kt : x = y → Snd z nL g A Qf tgt lv st h B) (kf : ¬ x = y → Snd z nL g A Qf (pc + 3) lv st h C) : Snd z nL g A Qf pc lv (.int y :: .int x :: st) h (if x = y then B else C) := by
  intro a ha ls H locs hl hw
  refine lv_icmp_eq F.1 F.2.1 d ht (fun hc => ?_) (fun hc => ?_)
  · rw [if_pos hc] at ha; exact kt hc a ha ls H locs hl hw
  · rw [if_neg hc] at ha; exact kf hc a ha ls H locs hl hw
theorem s_if_ne (F : Fx z cc nL own rt lev g A) {x : Int32} {off : Int} {B C : Option α} (tgt : Nat) (d : decode cc pc = .ok (.ifCond .ne off, 3)) (ht : (pc : Int) + off = (tgt : Int)) (kt : ¬ x = 0 → Snd z nL g A Qf tgt lv st h C) (kf : x = 0 → Snd z nL g A Qf (pc + 3) lv st h B) : Snd z nL g A Qf pc lv (.int x :: st) h (if x = 0 then B else C) := by
  intro a ha ls H locs hl hw
  refine lv_if_ne F.1 F.2.1 d ht (fun hc => ?_) (fun hc => ?_)
  · rw [if_neg hc] at ha; exact kt hc a ha ls H locs hl hw
  · rw [if_pos hc] at ha; exact kf hc a ha ls H locs hl hw
theorem s_icmp_ne (F : Fx z cc nL own rt lev g A) {x y : Int32} {off : Int} {B C : Option α} (tgt : Nat) (d : decode cc pc = .ok (.if_icmp .ne off, 3)) (ht : (pc : Int) + off = (tgt : Int)) (kt : ¬ x = y → Snd z nL g A Qf tgt lv st h C) (kf : x = y → Snd z nL g A Qf (pc + 3) lv st h B) : Snd z nL g A Qf pc lv (.int y :: .int x :: st) h (if x = y then B else C) := by
  intro a ha ls H locs hl hw
  refine lv_icmp_ne F.1 F.2.1 d ht (fun hc => ?_) (fun hc => ?_)
  · rw [if_neg hc] at ha; exact kt hc a ha ls H locs hl hw
  · rw [if_pos hc] at ha; exact kf hc a ha ls H locs hl hw
theorem s_if_lt (F : Fx z cc nL own rt lev g A) {x : Int32} {off : Int} {B C : Option α} (tgt : Nat) (d : decode cc pc = .ok (.ifCond .lt off, 3)) (ht : (pc : Int) + off = (tgt : Int)) (kt : x < 0 → Snd z nL g A Qf tgt lv st h B) (kf : ¬ x < 0 → Snd z nL g A Qf (pc + 3) lv st h C) : Snd z nL g A Qf pc lv (.int x :: st) h (if x < 0 then B else C) := by
  intro a ha ls H locs hl hw
  refine lv_if_lt F.1 F.2.1 d ht (fun hc => ?_) (fun hc => ?_)
  · rw [if_pos hc] at ha; exact kt hc a ha ls H locs hl hw
  · rw [if_neg hc] at ha; exact kf hc a ha ls H locs hl hw
theorem s_icmp_lt (F : Fx z cc nL own rt lev g A) {x y : Int32} {off : Int} {B C : Option α} (tgt : Nat) (d : decode cc pc = .ok (.if_icmp .lt off, 3)) (ht : (pc : Int) + off = (tgt : Int)) (kt : x < y → Snd z nL g A Qf tgt lv st h B) (kf : ¬ x < y → Snd z nL g A Qf (pc + 3) lv st h C) : Snd z nL g A Qf pc lv (.int y :: .int x :: st) h (if x < y then B else C) := by
  intro a ha ls H locs hl hw
  refine lv_icmp_lt F.1 F.2.1 d ht (fun hc => ?_) (fun hc => ?_)
  · rw [if_pos hc] at ha; exact kt hc a ha ls H locs hl hw
  · rw [if_neg hc] at ha; exact kf hc a ha ls H locs hl hw
theorem s_if_ge (F : Fx z cc nL own rt lev g A) {x : Int32} {off : Int} {B C : Option α} (tgt : Nat) (d : decode cc pc = .ok (.ifCond .ge off, 3)) (ht : (pc : Int) + off = (tgt : Int)) (kt : 0 ≤ x → Snd z nL g A Qf tgt lv st h B) (kf : ¬ 0 ≤ x → Snd z nL g A Qf (pc + 3) lv st h C) : Snd z nL g A Qf pc lv (.int x :: st) h (if 0 ≤ x then B else C) := by
  intro a ha ls H locs hl hw
  refine lv_if_ge F.1 F.2.1 d ht (fun hc => ?_) (fun hc => ?_)
  · rw [if_pos hc] at ha; exact kt hc a ha ls H locs hl hw
  · rw [if_neg hc] at ha; exact kf hc a ha ls H locs hl hw
theorem s_icmp_ge (F : Fx z cc nL own rt lev g A) {x y : Int32} {off : Int} {B C : Option α} (tgt : Nat) (d : decode cc pc = .ok (.if_icmp .ge off, 3)) (ht : (pc : Int) + off = (tgt : Int)) (kt : y ≤ x → Snd z nL g A Qf tgt lv st h B) (kf : ¬ y ≤ x → Snd z nL g A Qf (pc + 3) lv st h C) : Snd z nL g A Qf pc lv (.int y :: .int x :: st) h (if y ≤ x then B else C) := by
  intro a ha ls H locs hl hw
  refine lv_icmp_ge F.1 F.2.1 d ht (fun hc => ?_) (fun hc => ?_)
  · rw [if_pos hc] at ha; exact kt hc a ha ls H locs hl hw
  · rw [if_neg hc] at ha; exact kf hc a ha ls H locs hl hw
theorem s_if_gt (F : Fx z cc nL own rt lev g A) {x : Int32} {off : Int} {B C : Option α} (tgt : Nat) (d : decode cc pc = .ok (.ifCond .gt off, 3)) (ht : (pc : Int) + off = (tgt : Int)) (kt : 0 < x → Snd z nL g A Qf tgt lv st h B) (kf : ¬ 0 < x → Snd z nL g A Qf (pc + 3) lv st h C) : Snd z nL g A Qf pc lv (.int x :: st) h (if 0 < x then B else C) := by
  intro a ha ls H locs hl hw
  refine lv_if_gt F.1 F.2.1 d ht (fun hc => ?_) (fun hc => ?_)
  · rw [if_pos hc] at ha; exact kt hc a ha ls H locs hl hw
  · rw [if_neg hc] at ha; exact kf hc a ha ls H locs hl hw
theorem s_icmp_gt (F : Fx z cc nL own rt lev g A) {x y : Int32} {off : Int} {B C : Option α} (tgt : Nat) (d : decode cc pc = .ok (.if_icmp .gt off, 3)) (ht : (pc : Int) + off = (tgt : Int)) (kt : y < x → Snd z nL g A Qf tgt lv st h B) (kf : ¬ y < x → Snd z nL g A Qf (pc + 3) lv st h C) : Snd z nL g A Qf pc lv (.int y :: .int x :: st) h (if y < x then B else C) := by
  intro a ha ls H locs hl hw
  refine lv_icmp_gt F.1 F.2.1 d ht (fun hc => ?_) (fun hc => ?_)
  · rw [if_pos hc] at ha; exact kt hc a ha ls H locs hl hw
  · rw [if_neg hc] at ha; exact kf hc a ha ls H locs hl hw
theorem s_if_le (F : Fx z cc nL own rt lev g A) {x : Int32} {off : Int} {B C : Option α} (tgt : Nat) (d : decode cc pc = .ok (.ifCond .le off, 3)) (ht : (pc : Int) + off = (tgt : Int)) (kt : x ≤ 0 → Snd z nL g A Qf tgt lv st h B) (kf : ¬ x ≤ 0 → Snd z nL g A Qf (pc + 3) lv st h C) : Snd z nL g A Qf pc lv (.int x :: st) h (if x ≤ 0 then B else C) := by
  intro a ha ls H locs hl hw
  refine lv_if_le F.1 F.2.1 d ht (fun hc => ?_) (fun hc => ?_)
  · rw [if_pos hc] at ha; exact kt hc a ha ls H locs hl hw
  · rw [if_neg hc] at ha; exact kf hc a ha ls H locs hl hw
theorem s_icmp_le (F : Fx z cc nL own rt lev g A) {x y : Int32} {off : Int} {B C : Option α} (tgt : Nat) (d : decode cc pc = .ok (.if_icmp .le off, 3)) (ht : (pc : Int) + off = (tgt : Int)) (kt : x ≤ y → Snd z nL g A Qf tgt lv st h B) (kf : ¬ x ≤ y → Snd z nL g A Qf (pc + 3) lv st h C) : Snd z nL g A Qf pc lv (.int y :: .int x :: st) h (if x ≤ y then B else C) := by
  intro a ha ls H locs hl hw
  refine lv_icmp_le F.1 F.2.1 d ht (fun hc => ?_) (fun hc => ?_)
  · rw [if_pos hc] at ha; exact kt hc a ha ls H locs hl hw
  · rw [if_neg hc] at ha; exact kf hc a ha ls H locs hl hw
theorem s_tabOut (F : Fx z cc nL own rt lev g A) {dflt lo hi : Int} {offs : Array Int} {len : Nat} {x : Int32} {B : Option α} (tgt : Nat) (d : decode cc pc = .ok (.tableswitch dflt lo hi offs, len)) (ht : (pc : Int) + dflt = (tgt : Int)) (hh : x.toInt < lo ∨ hi < x.toInt) (k : Snd z nL g A Qf tgt lv st h B) : Snd z nL g A Qf pc lv (.int x :: st) h B := fun a ha ls H locs hl hw => lv_tableOut F.1 F.2.1 d hh ht (k a ha ls H locs hl hw)
theorem s_tabIn (F : Fx z cc nL own rt lev g A) {dflt lo hi : Int} {offs : Array Int} {len : Nat} {x : Int32} {off : Int} {B : Option α} (tgt : Nat) (d : decode cc pc = .ok (.tableswitch dflt lo hi offs, len)) (h1 : ¬ x.toInt < lo) (h2 : ¬ hi < x.toInt) (ho : offs[(x.toInt - lo).toNat]? = some off) (ht : (pc : Int) + off = (tgt : Int)) (k : Snd z nL g A Qf tgt lv st h B) : Snd z nL g A Qf pc lv (.int x :: st) h B := fun a ha ls H locs hl hw => lv_tableIn F.1 F.2.1 d h1 h2 ho ht (k a ha ls H locs hl hw)
/-- a case of a switch, by the number's value -/
theorem s_case {x : Int32} (v : Int32) {B C : Option α} (kt : Snd z nL g A Qf pc lv (.int v :: st) h B) (kf : ¬ x = v → Snd z nL g A Qf pc lv (.int x :: st) h C) : Snd z nL g A Qf pc lv (.int x :: st) h (if x = v then B else C) := by
  by_cases hx : x = v
  · rw [if_pos hx, hx]; exact kt
  · rw [if_neg hx]; exact kf hx
theorem s_out {x : Int32} (lo hi : Int) (n : Nat) (h1 : (-1000 : Int) ≤ lo) (h2 : hi ≤ 1000) (hn : lo + n = hi + 1) (hh : ∀ j : Nat, j < n → ¬ x = Int32.ofInt (lo + j)) : x.toInt < lo ∨ hi < x.toInt := by
  rcases Int.lt_or_le x.toInt lo with q | q
  · exact Or.inl q
  · rcases Int.lt_or_le hi x.toInt with w | w
    · exact Or.inr w
    · exfalso
      refine hh (x.toInt - lo).toNat (by omega) ?_
      have e : lo + ((x.toInt - lo).toNat : Int) = x.toInt := by omega
      rw [e, Int32.ofInt_toInt]
end MS
/-! ===== fields, rows, answers, calls ===== -/
theorem wf_ref {La : List Sh} (w : wfL La) {r c : Nat} (h : La[r]? = some (.inl c)) (k d : Nat) (sh : Sh) (hk : (cfl c)[k]? = some (some (d, sh))) : La[r + d]? = some sh := w r c h k d sh hk
theorem ad_lt {g : GC} {A : Nat → Prop} (hA : ∀ r, r < (gL g).length → A (gad g r)) {r : Nat} {sh : Sh} (h : (gL g)[r]? = some sh) : A (gad g r) := hA r (List.getElem?_eq_some_iff.mp h).1
/-- what the tables say of a class of ours, by its number -/
def CI (ci : Nat) (C : String) (T : u_T) (N : Nat) (ty : Nat → FieldType) : Prop := vwCl[ci]? = some (C, T, N) ∧ (∀ w ∈ u_ws C T N, w ∈ WL) ∧ (∀ k, k < N → parseFieldDescriptor (T k).2.2.1 = some (ty k)) ∧ (∀ a, a < N → ∀ b, b < N → a ≠ b → (T a).2.1 ≠ (T b).2.1)
section MH
variable {z : MC} {cc : ByteArray} {nL : Nat} {own : String} {rt : Option FieldType} {lev : Nat} {g : GC} {A : Nat → Prop} {α : Type} {Qf : α → State → Prop} {pc : Nat} {lv : List (Nat × Value)} {st : List Value} {h : AH} {res : Option α}
variable {ci : Nat} {C : String} {T : u_T} {N : Nat} {ty : Nat → FieldType}
theorem s_get (F : Fx z cc nL own rt lev g A) (I : CI ci C T N ty) {r index k : Nat} {o : Option (Nat × Sh)} (ho : (gL g)[r]? = some (.inl ci)) (hk : k < N) (hf : (cfl ci)[k]? = some o) (hC : (T k).1 = C) (hl : Cond.fieldLink own index C (T k).2.1 (T k).2.2.1 ∈ WL) (d : decode cc pc = .ok (.getfield index, 3))
    (kk : Snd z nL g A Qf (pc + 3) lv (fldOf (gad g) h r k o :: st) h res) : Snd z nL g A Qf pc lv (.ref (gad g r) :: st) h res := by
  intro a ha ls H locs hlv hw
  obtain ⟨hx, hb, hml, hown, hts, hK, -⟩ := id F
  exact va_get (D := gD g) (ci := ci) (v := fldOf (gad g) h r k o) (C := C) (T := T) (N := N) hx hb hts I.2.1 hown hK hw.1 r (conc_get ho) I.1 k hk (hts _ hl) (fun x hx9 => by rw [← hC]; exact hx9) (by simp only [List.getElem?_mapIdx, hf, Option.map_some]) d (kk a ha ls H locs hlv hw)
theorem s_getN (F : Fx z cc nL own rt lev g A) (I : CI ci C T N ty) {r index k : Nat} {o : Option (Nat × Sh)} (ho : (gL g)[r]? = some (.inl ci)) (hk : k < N) (hf : (cfl ci)[k]? = some o) (hC : (T k).1 = C) (hl : (own, index, C, (T k).2.1, (T k).2.2.1) ∈ nestF) (d : decode cc pc = .ok (.getfield index, 3))
    (kk : Snd z nL g A Qf (pc + 3) lv (fldOf (gad g) h r k o :: st) h res) : Snd z nL g A Qf pc lv (.ref (gad g r) :: st) h res := by
  intro a ha ls H locs hlv hw
  obtain ⟨hx, hb, hml, hown, hts, hK, -, hE, -⟩ := id F
  exact va_getN (D := gD g) (ci := ci) (v := fldOf (gad g) h r k o) (C := C) (T := T) (N := N) (ref := C) (host := "ArchTrades") hx hb hts I.2.1 hown hK hw.1 r (conc_get ho) I.1 k hk (va_Nw.use rfl (hE.2.1 _ hl)) (fun x hx9 => by rw [← hC]; exact hx9) (by simp only [List.getElem?_mapIdx, hf, Option.map_some]) d (kk a ha ls H locs hlv hw)
theorem s_put (F : Fx z cc nL own rt lev g A) (I : CI ci C T N ty) {r index k : Nat} {v : Int32} (ho : (gL g)[r]? = some (.inl ci)) (hk : k < N) (hf : (cfl ci)[k]? = some none) (hC : (T k).1 = C) (hfin : (T k).2.2.2 = false) (hty : ty k = .int) (hl : Cond.fieldLink own index C (T k).2.1 (T k).2.2.1 ∈ WL) (d : decode cc pc = .ok (.putfield index, 3))
    (kk : Snd z nL g A Qf (pc + 3) lv st (hset h r k v) res) : Snd z nL g A Qf pc lv (.int v :: .ref (gad g r) :: st) h res := by
  intro a ha ls H locs hlv hw
  obtain ⟨hx, hb, hml, hown, hts, hK, -⟩ := id F
  obtain ⟨hP, hD, hS⟩ := hw
  have hd := I.2.2.1 k hk
  rw [hty] at hd
  refine va_put (D := gD g) (ci := ci) (v := .int v) (ty := .int) (C := C) (T := T) (N := N) hx hb hts I.2.1 ty I.2.2.1 I.2.2.2 hown hK hP hD hS r (conc_get ho) I.1 k hk (hts _ hl) (fun x hx9 => by rw [← hC]; exact hx9) hfin hd rfl rfl (by have := (List.getElem?_eq_some_iff.mp hf).1; simpa using this) d (fun H1 locs1 hP1 hD1 hS1 => ?_)
  have e : (gW g h).set r (gad g r, .inr (ci, ((cfl ci).mapIdx (fun k o => fldOf (gad g) h r k o)).set k (.int v))) = gW g (hset h r k v) := conc_setO ho hf
  rw [e] at hP1 hD1
  exact kk a ha ls H1 locs1 hlv ⟨hP1, hD1, hS1⟩
theorem s_putN (F : Fx z cc nL own rt lev g A) (I : CI ci C T N ty) {r index k : Nat} {v : Int32} (ho : (gL g)[r]? = some (.inl ci)) (hk : k < N) (hf : (cfl ci)[k]? = some none) (hC : (T k).1 = C) (hfin : (T k).2.2.2 = false) (hty : ty k = .int) (hl : (own, index, C, (T k).2.1, (T k).2.2.1) ∈ nestF) (d : decode cc pc = .ok (.putfield index, 3))
    (kk : Snd z nL g A Qf (pc + 3) lv st (hset h r k v) res) : Snd z nL g A Qf pc lv (.int v :: .ref (gad g r) :: st) h res := by
  intro a ha ls H locs hlv hw
  obtain ⟨hx, hb, hml, hown, hts, hK, -, hE, -⟩ := id F
  obtain ⟨hP, hD, hS⟩ := hw
  have hd := I.2.2.1 k hk
  rw [hty] at hd
  refine va_putN (D := gD g) (ci := ci) (v := .int v) (ty := .int) (C := C) (T := T) (N := N) (ref := C) (host := "ArchTrades") hx hb hts I.2.1 ty I.2.2.1 I.2.2.2 hown hK hP hD hS r (conc_get ho) I.1 k hk (va_Nw.use rfl (hE.2.1 _ hl)) (fun x hx9 => by rw [← hC]; exact hx9) hfin hd rfl rfl (by have := (List.getElem?_eq_some_iff.mp hf).1; simpa using this) d (fun H1 locs1 hP1 hD1 hS1 => ?_)
  have e : (gW g h).set r (gad g r, .inr (ci, ((cfl ci).mapIdx (fun k o => fldOf (gad g) h r k o)).set k (.int v))) = gW g (hset h r k v) := conc_setO ho hf
  rw [e] at hP1 hD1
  exact kk a ha ls H1 locs1 hlv ⟨hP1, hD1, hS1⟩
theorem nz01 {v : Int32} (hv : v = 0 ∨ v = 1) : narrow .boolean (.int v) = .int v ∧ fits .boolean (.int v) = true := by
  rcases hv with rfl | rfl
  · exact ⟨rfl, rfl⟩
  · exact ⟨rfl, rfl⟩
/-- a field of truth values -/
theorem s_putZ (F : Fx z cc nL own rt lev g A) (I : CI ci C T N ty) {r index k : Nat} {v : Int32} (ho : (gL g)[r]? = some (.inl ci)) (hk : k < N) (hf : (cfl ci)[k]? = some none) (hC : (T k).1 = C) (hfin : (T k).2.2.2 = false) (hty : ty k = .boolean) (hl : Cond.fieldLink own index C (T k).2.1 (T k).2.2.1 ∈ WL) (d : decode cc pc = .ok (.putfield index, 3))
    (kk : Snd z nL g A Qf (pc + 3) lv st (hset h r k v) res) : Snd z nL g A Qf pc lv (.int v :: .ref (gad g r) :: st) h (gz v res) := by
  intro a ha ls H locs hlv hw
  unfold gz at ha
  split at ha
  case isFalse => cases ha
  case isTrue hv =>
  obtain ⟨hx, hb, hml, hown, hts, hK, -⟩ := id F
  obtain ⟨hP, hD, hS⟩ := hw
  have hd := I.2.2.1 k hk
  rw [hty] at hd
  refine va_put (D := gD g) (ci := ci) (v := .int v) (ty := .boolean) (C := C) (T := T) (N := N) hx hb hts I.2.1 ty I.2.2.1 I.2.2.2 hown hK hP hD hS r (conc_get ho) I.1 k hk (hts _ hl) (fun x hx9 => by rw [← hC]; exact hx9) hfin hd (nz01 hv).1 (nz01 hv).2 (by have := (List.getElem?_eq_some_iff.mp hf).1; simpa using this) d (fun H1 locs1 hP1 hD1 hS1 => ?_)
  have e : (gW g h).set r (gad g r, .inr (ci, ((cfl ci).mapIdx (fun k o => fldOf (gad g) h r k o)).set k (.int v))) = gW g (hset h r k v) := conc_setO ho hf
  rw [e] at hP1 hD1
  exact kk a ha ls H1 locs1 hlv ⟨hP1, hD1, hS1⟩
theorem s_putZN (F : Fx z cc nL own rt lev g A) (I : CI ci C T N ty) {r index k : Nat} {v : Int32} (ho : (gL g)[r]? = some (.inl ci)) (hk : k < N) (hf : (cfl ci)[k]? = some none) (hC : (T k).1 = C) (hfin : (T k).2.2.2 = false) (hty : ty k = .boolean) (hl : (own, index, C, (T k).2.1, (T k).2.2.1) ∈ nestF) (d : decode cc pc = .ok (.putfield index, 3))
    (kk : Snd z nL g A Qf (pc + 3) lv st (hset h r k v) res) : Snd z nL g A Qf pc lv (.int v :: .ref (gad g r) :: st) h (gz v res) := by
  intro a ha ls H locs hlv hw
  unfold gz at ha
  split at ha
  case isFalse => cases ha
  case isTrue hv =>
  obtain ⟨hx, hb, hml, hown, hts, hK, -, hE, -⟩ := id F
  obtain ⟨hP, hD, hS⟩ := hw
  have hd := I.2.2.1 k hk
  rw [hty] at hd
  refine va_putN (D := gD g) (ci := ci) (v := .int v) (ty := .boolean) (C := C) (T := T) (N := N) (ref := C) (host := "ArchTrades") hx hb hts I.2.1 ty I.2.2.1 I.2.2.2 hown hK hP hD hS r (conc_get ho) I.1 k hk (va_Nw.use rfl (hE.2.1 _ hl)) (fun x hx9 => by rw [← hC]; exact hx9) hfin hd (nz01 hv).1 (nz01 hv).2 (by have := (List.getElem?_eq_some_iff.mp hf).1; simpa using this) d (fun H1 locs1 hP1 hD1 hS1 => ?_)
  have e : (gW g h).set r (gad g r, .inr (ci, ((cfl ci).mapIdx (fun k o => fldOf (gad g) h r k o)).set k (.int v))) = gW g (hset h r k v) := conc_setO ho hf
  rw [e] at hP1 hD1
  exact kk a ha ls H1 locs1 hlv ⟨hP1, hD1, hS1⟩
theorem ck_in {i : Int32} {n : Nat} {K : Option α} {a : α} (hh : ck i n K = some a) : vp_in i n ∧ K = some a := by
  unfold ck at hh
  split at hh
  · cases hh
  · next hx => exact ⟨hx, hh⟩
theorem s_iald (F : Fx z cc nL own rt lev g A) {r n : Nat} {i : Int32} (ho : (gL g)[r]? = some (.inr (0, n))) (d : decode cc pc = .ok (.iaload, 1))
    (kk : Snd z nL g A Qf (pc + 1) lv (.int (h r i.toNatClampNeg) :: st) h res) : Snd z nL g A Qf pc lv (.int i :: .ref (gad g r) :: st) h (ck i n res) := by
  intro a ha ls H locs hlv hw
  obtain ⟨hin, ha⟩ := ck_in ha
  exact va_iald F.1 F.2.1 F.2.2.2.2.2.1 hw.1 r 0 (conc_get ho) rfl hin d (kk a ha ls H locs hlv hw)
theorem s_bald (F : Fx z cc nL own rt lev g A) {r n : Nat} {i : Int32} (ho : (gL g)[r]? = some (.inr (1, n))) (d : decode cc pc = .ok (.baload, 1))
    (kk : Snd z nL g A Qf (pc + 1) lv (.int (h r i.toNatClampNeg) :: st) h res) : Snd z nL g A Qf pc lv (.int i :: .ref (gad g r) :: st) h (ck i n res) := by
  intro a ha ls H locs hlv hw
  obtain ⟨hin, ha⟩ := ck_in ha
  exact va_bald F.1 F.2.1 F.2.2.2.2.2.1 hw.1 r 1 (conc_get ho) rfl hin d (kk a ha ls H locs hlv hw)
theorem s_zald (F : Fx z cc nL own rt lev g A) {r n : Nat} {i : Int32} (ho : (gL g)[r]? = some (.inr (2, n))) (d : decode cc pc = .ok (.baload, 1))
    (kk : Snd z nL g A Qf (pc + 1) lv (.int (h r i.toNatClampNeg) :: st) h res) : Snd z nL g A Qf pc lv (.int i :: .ref (gad g r) :: st) h (ck i n res) := by
  intro a ha ls H locs hlv hw
  obtain ⟨hin, ha⟩ := ck_in ha
  exact va_zald F.1 F.2.1 F.2.2.2.2.2.1 hw.1 r 2 (conc_get ho) rfl hin d (kk a ha ls H locs hlv hw)
theorem s_iast (F : Fx z cc nL own rt lev g A) {r n : Nat} {i v : Int32} (ho : (gL g)[r]? = some (.inr (0, n))) (d : decode cc pc = .ok (.iastore, 1))
    (kk : Snd z nL g A Qf (pc + 1) lv st (hset h r i.toNatClampNeg v) res) : Snd z nL g A Qf pc lv (.int v :: .int i :: .ref (gad g r) :: st) h (ck i n res) := by
  intro a ha ls H locs hlv hw
  obtain ⟨hin, ha⟩ := ck_in ha
  obtain ⟨hP, hD, hS⟩ := hw
  refine va_iast F.1 F.2.1 F.2.2.2.2.2.1 hP hD hS r 0 (conc_get ho) rfl hin d (fun H1 locs1 hP1 hD1 hS1 => ?_)
  have e : (gW g h).set r (gad g r, .inl (gtc g 0, n, .inl (upd (h r) i.toNatClampNeg v))) = gW g (hset h r i.toNatClampNeg v) := conc_setA ho
  rw [e] at hP1 hD1
  exact kk a ha ls H1 locs1 hlv ⟨hP1, hD1, hS1⟩
theorem s_bast (F : Fx z cc nL own rt lev g A) {r n : Nat} {i v : Int32} (ho : (gL g)[r]? = some (.inr (1, n))) (d : decode cc pc = .ok (.bastore, 1))
    (kk : Snd z nL g A Qf (pc + 1) lv st (hset h r i.toNatClampNeg (vp_nar .byte v)) res) : Snd z nL g A Qf pc lv (.int v :: .int i :: .ref (gad g r) :: st) h (ck i n res) := by
  intro a ha ls H locs hlv hw
  obtain ⟨hin, ha⟩ := ck_in ha
  obtain ⟨hP, hD, hS⟩ := hw
  refine va_bast F.1 F.2.1 F.2.2.2.2.2.1 hP hD hS r 1 (conc_get ho) rfl hin d (fun H1 locs1 hP1 hD1 hS1 => ?_)
  have e : (gW g h).set r (gad g r, .inl (gtc g 1, n, .inl (upd (h r) i.toNatClampNeg (vp_nar .byte v)))) = gW g (hset h r i.toNatClampNeg (vp_nar .byte v)) := conc_setA ho
  rw [e] at hP1 hD1
  exact kk a ha ls H1 locs1 hlv ⟨hP1, hD1, hS1⟩
theorem s_zast (F : Fx z cc nL own rt lev g A) {r n : Nat} {i v : Int32} (ho : (gL g)[r]? = some (.inr (2, n))) (d : decode cc pc = .ok (.bastore, 1))
    (kk : Snd z nL g A Qf (pc + 1) lv st (hset h r i.toNatClampNeg (vp_nar .boolean v)) res) : Snd z nL g A Qf pc lv (.int v :: .int i :: .ref (gad g r) :: st) h (ck i n res) := by
  intro a ha ls H locs hlv hw
  obtain ⟨hin, ha⟩ := ck_in ha
  obtain ⟨hP, hD, hS⟩ := hw
  refine va_zast F.1 F.2.1 F.2.2.2.2.2.1 hP hD hS r 2 (conc_get ho) rfl hin d (fun H1 locs1 hP1 hD1 hS1 => ?_)
  have e : (gW g h).set r (gad g r, .inl (gtc g 2, n, .inl (upd (h r) i.toNatClampNeg (vp_nar .boolean v)))) = gW g (hset h r i.toNatClampNeg (vp_nar .boolean v)) := conc_setA ho
  rw [e] at hP1 hD1
  exact kk a ha ls H1 locs1 hlv ⟨hP1, hD1, hS1⟩
theorem s_alen (F : Fx z cc nL own rt lev g A) {r n : Nat} {v : Int32} (ho : (gL g)[r]? = some (.inr (0, n))) (hv : Int32.ofNat n = v) (d : decode cc pc = .ok (.arraylength, 1))
    (kk : Snd z nL g A Qf (pc + 1) lv (.int v :: st) h res) : Snd z nL g A Qf pc lv (.ref (gad g r) :: st) h res :=
  fun a ha ls H locs hlv hw => va_alen F.1 F.2.1 F.2.2.2.2.2.1 hw.1 r 0 (conc_get ho) rfl hv d (kk a ha ls H locs hlv hw)
/-- a static row, and its places -/
theorem s_gets (F : Fx z cc nL own rt lev g A) {index : Nat} (i : Nat) (hi : i < 4) {ref nm : String} (h1 : (stc i).1 = ref) (h2 : (stc i).2 = nm) (hl : Cond.fieldLink own index ref nm "[I" ∈ WL) (d : decode cc pc = .ok (.getstatic index, 3))
    (kk : Snd z nL g A Qf (pc + 3) lv (.ref (gtA g i) :: st) h res) : Snd z nL g A Qf pc lv st h res := by
  intro a ha ls H locs hlv hw
  obtain ⟨hx, hb, hml, hown, hts, hK, -, hE, -⟩ := id F
  have hZ := (hE.2.2.1 i hi).1
  rw [h1, h2] at hZ
  exact va_gets hx hb hZ hw.2.2 hown (hts _ hl) (fun _ h9 => h9) d (kk a ha ls H locs hlv hw)
theorem s_getsN (F : Fx z cc nL own rt lev g A) {index : Nat} (i : Nat) (hi : i < 4) {ref nm : String} (h1 : (stc i).1 = ref) (h2 : (stc i).2 = nm) (hl : (own, index, ref, nm, "[I") ∈ nestF) (d : decode cc pc = .ok (.getstatic index, 3))
    (kk : Snd z nL g A Qf (pc + 3) lv (.ref (gtA g i) :: st) h res) : Snd z nL g A Qf pc lv st h res := by
  intro a ha ls H locs hlv hw
  obtain ⟨hx, hb, hml, hown, hts, hK, -, hE, -⟩ := id F
  have hZ := (hE.2.2.1 i hi).1
  rw [h1, h2] at hZ
  exact va_getsN hx hb hZ hw.2.2 hown (va_Nw.use rfl (hE.2.1 _ hl)) (fun _ h9 => h9) d (kk a ha ls H locs hlv hw)
theorem s_tld (F : Fx z cc nL own rt lev g A) (j : Nat) (hj : j < 4) {n : Nat} (hn : (stv j).length = n) {i : Int32} (d : decode cc pc = .ok (.iaload, 1))
    (kk : Snd z nL g A Qf (pc + 1) lv (.int ((stv j).getD i.toNatClampNeg 0) :: st) h res) : Snd z nL g A Qf pc lv (.int i :: .ref (gtA g j) :: st) h (ck i n res) := by
  subst hn
  intro a ha ls H locs hlv hw
  obtain ⟨hin, ha⟩ := ck_in ha
  obtain ⟨hx, hb, hml, hown, hts, hK, -, hE, -⟩ := id F
  exact va_ti hx hb (hE.2.2.1 j hj).2 hw.2.2 hin rfl d (kk a ha ls H locs hlv hw)
theorem s_tlen (F : Fx z cc nL own rt lev g A) (j : Nat) (hj : j < 4) {v : Int32} (hv : Int32.ofNat (stv j).length = v) (d : decode cc pc = .ok (.arraylength, 1))
    (kk : Snd z nL g A Qf (pc + 1) lv (.int v :: st) h res) : Snd z nL g A Qf pc lv (.ref (gtA g j) :: st) h res := by
  intro a ha ls H locs hlv hw
  obtain ⟨hx, hb, hml, hown, hts, hK, -, hE, -⟩ := id F
  obtain ⟨cell, h1, h2, h3, h4, h5, h6, h7⟩ := (hE.2.2.1 j hj).2
  exact W.alen (n := v) hx hb (by rw [hw.2.2.2.1 _ (Array.getElem?_eq_some_iff.mp h1).1 h7]; exact h1) h2 (h5.trans hv) rfl rfl d (kk a ha ls H locs hlv hw)
end MH
section MW
variable {z : MC} {cc : ByteArray} {nL : Nat} {own : String} {rt : Option FieldType} {lev : Nat} {g : GC} {A : Nat → Prop} {α : Type} {Qf : α → State → Prop} {pc : Nat} {lv : List (Nat × Value)} {st : List Value} {h : AH} {res : Option α}
variable {ci : Nat} {C : String} {T : u_T} {N : Nat} {ty : Nat → FieldType}
theorem s_leti {v : Int32} {K : Int32 → Option α} (k : ∀ x : Int32, Snd z nL g A Qf pc lv (.int x :: st) h (K x)) : Snd z nL g A Qf pc lv (.int v :: st) h (lt v K) := k v
theorem s_letl {v : Int64} {K : Int64 → Option α} (k : ∀ x : Int64, Snd z nL g A Qf pc lv (.long x :: st) h (K x)) : Snd z nL g A Qf pc lv (.long v :: st) h (lt v K) := k v
theorem s_leti2 {w : Value} {v : Int32} {K : Int32 → Option α} (k : ∀ x : Int32, Snd z nL g A Qf pc lv (w :: .int x :: st) h (K x)) : Snd z nL g A Qf pc lv (w :: .int v :: st) h (lt v K) := k v
theorem s_lv {lv' : List (Nat × Value)} (he : lv = lv') (k : Snd z nL g A Qf pc lv' st h res) : Snd z nL g A Qf pc lv st h res := by rw [he]; exact k
theorem s_iincv (F : Fx z cc nL own rt lev g A) {i : Nat} {n : Int} {x c : Int32} {K : Int32 → Option α} (d : decode cc pc = .ok (.iinc i n, 3)) (j : Nat) (hj : lv[j]? = some (i, .int x)) (hn : i < nL) (hc : Int32.ofInt n = c) (k : ∀ v : Int32, Snd z nL g A Qf (pc + 3) ((i, Value.int v) :: lv.filter (fun q => !(q.1 == i) && !(q.1 + 1 == i && q.2.category == 2))) st h (K v)) : Snd z nL g A Qf pc lv st h (lt (x + c) K) := by
  subst hc
  exact s_iinc F (v := x + Int32.ofInt n) d j hj rfl hn rfl (k _)
theorem s_ldcS (F : Fx z cc nL own rt lev g A) (i : Nat) (hi : i < 8) {index : Nat} (hx2 : (ksi i).1 = index) (ho : RX4 = own) (d : decode cc pc = .ok (.ldc index, 2)) (kk : Snd z nL g A Qf (pc + 2) lv (.ref (gK g i) :: st) h res) : Snd z nL g A Qf pc lv st h res := by
  subst ho
  subst hx2
  intro a ha ls H locs hlv hw
  obtain ⟨hx, hb, hml, hown, hts, hK, -, hE, -⟩ := id F
  exact va_ldcS hx hb hown (hE.2.2.2.2.1 i hi) d (kk a ha ls H locs hlv hw)
theorem s_geti (F : Fx z cc nL own rt lev g A) (I : CI ci C T N ty) {r index : Nat} (k : Nat) (ho : (gL g)[r]? = some (.inl ci)) (hk : k < N) (hf : (cfl ci)[k]? = some none) (hC : (T k).1 = C) (hl : Cond.fieldLink own index C (T k).2.1 (T k).2.2.1 ∈ WL) (d : decode cc pc = .ok (.getfield index, 3))
    (kk : Snd z nL g A Qf (pc + 3) lv (.int (h r k) :: st) h res) : Snd z nL g A Qf pc lv (.ref (gad g r) :: st) h res := s_get F I (o := none) ho hk hf hC hl d kk
theorem s_getr (F : Fx z cc nL own rt lev g A) (I : CI ci C T N ty) {r index : Nat} (k : Nat) (dl : Nat) (sh : Sh) (ho : (gL g)[r]? = some (.inl ci)) (hk : k < N) (hf : (cfl ci)[k]? = some (some (dl, sh))) (hC : (T k).1 = C) (hl : Cond.fieldLink own index C (T k).2.1 (T k).2.2.1 ∈ WL) (d : decode cc pc = .ok (.getfield index, 3))
    (kk : Snd z nL g A Qf (pc + 3) lv (.ref (gad g (r + dl)) :: st) h res) : Snd z nL g A Qf pc lv (.ref (gad g r) :: st) h res := s_get F I (o := some (dl, sh)) ho hk hf hC hl d kk
theorem s_getiN (F : Fx z cc nL own rt lev g A) (I : CI ci C T N ty) {r index : Nat} (k : Nat) (ho : (gL g)[r]? = some (.inl ci)) (hk : k < N) (hf : (cfl ci)[k]? = some none) (hC : (T k).1 = C) (hl : (own, index, C, (T k).2.1, (T k).2.2.1) ∈ nestF) (d : decode cc pc = .ok (.getfield index, 3))
    (kk : Snd z nL g A Qf (pc + 3) lv (.int (h r k) :: st) h res) : Snd z nL g A Qf pc lv (.ref (gad g r) :: st) h res := s_getN F I (o := none) ho hk hf hC hl d kk
theorem s_getrN (F : Fx z cc nL own rt lev g A) (I : CI ci C T N ty) {r index : Nat} (k : Nat) (dl : Nat) (sh : Sh) (ho : (gL g)[r]? = some (.inl ci)) (hk : k < N) (hf : (cfl ci)[k]? = some (some (dl, sh))) (hC : (T k).1 = C) (hl : (own, index, C, (T k).2.1, (T k).2.2.1) ∈ nestF) (d : decode cc pc = .ok (.getfield index, 3))
    (kk : Snd z nL g A Qf (pc + 3) lv (.ref (gad g (r + dl)) :: st) h res) : Snd z nL g A Qf pc lv (.ref (gad g r) :: st) h res := s_getN F I (o := some (dl, sh)) ho hk hf hC hl d kk
end MW
section MR
variable {z : MC} {cc : ByteArray} {nL : Nat} {own : String} {rt : Option FieldType} {lev : Nat} {g : GC} {A : Nat → Prop} {pc : Nat} {lv : List (Nat × Value)} {h : AH}
theorem s_iret (F : Fx z cc nL own (some .int) lev g A) {v : Int32} (d : decode cc pc = .ok (.ireturn, 1)) : Snd z nL g A (QF z g A mkI) pc lv [.int v] h (some (v, h)) := by
  intro a ha ls H locs hlv hw
  cases ha
  obtain ⟨hP, hD, hS⟩ := hw
  obtain ⟨hx, hb, -, -, -, -, -, -, -, hr, hlk, -⟩ := id F
  exact W.iret hx hb hr (fun t ht _ => ⟨⟨rfl, by rw [ht]; exact hP, hD⟩, hS.F ht⟩) hS.2.2 d (hlocks := hlk)
theorem s_zret (F : Fx z cc nL own (some .boolean) lev g A) {v : Int32} (d : decode cc pc = .ok (.ireturn, 1)) : Snd z nL g A (QF z g A mkI) pc lv [.int v] h (gz v (some (v, h))) := by
  intro a ha ls H locs hlv hw
  unfold gz at ha
  split at ha
  case isFalse => cases ha
  case isTrue hv =>
  cases ha
  obtain ⟨hP, hD, hS⟩ := hw
  obtain ⟨hx, hb, -, -, -, -, -, -, -, hr, hlk, -⟩ := id F
  exact W.zret hx hb hr (nz01 hv).1 (fun t ht _ => ⟨⟨rfl, by rw [ht]; exact hP, hD⟩, hS.F ht⟩) hS.2.2 d (hlocks := hlk)
theorem s_zret1 (F : Fx z cc nL own (some .boolean) lev g A) {v : Int32} (hv : v = 0 ∨ v = 1) (d : decode cc pc = .ok (.ireturn, 1)) : Snd z nL g A (QF z g A mkI) pc lv [.int v] h (some (v, h)) := by
  have k := s_zret (z := z) (g := g) (lv := lv) (h := h) (v := v) F d
  unfold gz at k
  rwa [if_pos hv] at k
theorem s_nret {tt : FieldType} (F : Fx z cc nL own (some tt) lev g A) {v : Int32} (hn : narrow tt (.int v) = .int v) (d : decode cc pc = .ok (.ireturn, 1)) : Snd z nL g A (QF z g A mkI) pc lv [.int v] h (some (v, h)) := by
  intro a ha ls H locs hlv hw
  cases ha
  obtain ⟨hP, hD, hS⟩ := hw
  obtain ⟨hx, hb, -, -, -, -, -, -, -, hr, hlk, -⟩ := id F
  exact W.zret hx hb hr hn (fun t ht _ => ⟨⟨rfl, by rw [ht]; exact hP, hD⟩, hS.F ht⟩) hS.2.2 d (hlocks := hlk)
theorem s_lret (F : Fx z cc nL own (some .long) lev g A) {v : Int64} (d : decode cc pc = .ok (.lreturn, 1)) : Snd z nL g A (QF z g A mkL) pc lv [.long v] h (some (v, h)) := by
  intro a ha ls H locs hlv hw
  cases ha
  obtain ⟨hP, hD, hS⟩ := hw
  obtain ⟨hx, hb, -, -, -, -, -, -, -, hr, hlk, -⟩ := id F
  exact W.lret hx hb hr (fun t ht _ => ⟨⟨rfl, by rw [ht]; exact hP, hD⟩, hS.F ht⟩) hS.2.2 d (hlocks := hlk)
theorem s_vret (F : Fx z cc nL own none lev g A) (d : decode cc pc = .ok (.return_, 1)) : Snd z nL g A (QF z g A mkU) pc lv [] h (some ((), h)) := by
  intro a ha ls H locs hlv hw
  cases ha
  obtain ⟨hP, hD, hS⟩ := hw
  obtain ⟨hx, hb, -, -, -, -, -, -, -, hr, hlk, -⟩ := id F
  exact W.vret hx hb hr (fun t ht _ => ⟨⟨rfl, by rw [ht]; exact hP, hD⟩, hS.F ht⟩) hS.2.2 d (hlocks := hlk)
theorem s_aret {cn : String} (F : Fx z cc nL own (some (.object cn)) lev g A) {r : Nat} (d : decode cc pc = .ok (.areturn, 1)) : Snd z nL g A (QF z g A (mkR g)) pc lv [.ref (gad g r)] h (some (r, h)) := by
  intro a ha ls H locs hlv hw
  cases ha
  obtain ⟨hP, hD, hS⟩ := hw
  obtain ⟨hx, hb, -, -, -, -, -, -, -, hr, hlk, -⟩ := id F
  exact W.aret hx hb hr (Or.inl ⟨_, rfl⟩) (Or.inr ⟨_, rfl⟩) (fun t ht _ => ⟨⟨rfl, by rw [ht]; exact hP, hD⟩, hS.F ht⟩) hS.2.2 d (hlocks := hlk)
end MR
/-- more turns than any loop takes -/
theorem fu_ex : ∃ n : Nat, 100000 ≤ n := ⟨100000, Nat.le_refl _⟩
noncomputable def fu : Nat := Classical.choose fu_ex
theorem fu_ge (k : Nat) (h : k < 100000) : k < fu := Nat.lt_of_lt_of_le h (Classical.choose_spec fu_ex)
/-! ===== contracts: a method and its partial function; calls ===== -/
def Ct (l : Launch) (y : MethodName) (cd : ByteArray) (mL : Nat) (rt : Option FieldType) (lev : Nat) (av : List Value) (g : GC) {ρ : Type} (mk : ρ → Option Value) (f : AH → Option (ρ × AH)) : Prop :=
  ∀ (h : AH) (a : ρ × AH), f h = some a → ∀ sz : Nat, Met l y (.code y cd mL rt :: WL) (rmL lev) (va_Pc av (fun U => U.heap.size = sz ∧ va_P (gD g) vwCl (gW g h) U.heap ∧ va_K (gD g) vwCl (tys g) U ∧ va_D (fun _ => True) (gW g h) ∧ wfL (gL g) ∧ EV g (gA g sz) U)) (rq g (gA g sz) mk a) 0 0 (gA g sz)
theorem gW_len (g : GC) (h : AH) : (gW g h).length = (gL g).length := by simp [gW, conc]
theorem gA_of {g : GC} {h : AH} {sz k : Nat} {q : Nat × va_E} (hk : (gW g h)[k]? = some q) : gA g sz q.1 := by
  have hl : k < (gL g).length := by rw [← gW_len g h]; exact (List.getElem?_eq_some_iff.mp hk).1
  have he : (gL g)[k]? = some (gL g)[k] := List.getElem?_eq_getElem hl
  have e2 : (gW g h)[k]? = some (gad g k, cellOf (gad g) (gtc g) h k (gL g)[k]) := conc_get he
  rw [hk] at e2
  exact Or.inl ⟨k, hl, by rw [Option.some.inj e2]⟩
theorem gA_sub {g : GC} {A : Nat → Prop} {n sz : Nat} (h1 : ∀ r, r < (gL g).length → A (gad g r)) (h2 : ∀ q, n ≤ q → A q) (h3 : n ≤ sz) : ∀ q, gA g sz q → A q := by
  intro q hq
  rcases hq with ⟨r, hr, rfl⟩ | hq
  · exact h1 r hr
  · exact h2 q (Nat.le_trans h3 hq)
theorem Ct.of {l : Launch} {y : MethodName} {cd : ByteArray} {mL : Nat} {rt : Option FieldType} {lev : Nat} {av : List Value} {g : GC} {ρ : Type} {mk : ρ → Option Value} {f : AH → Option (ρ × AH)} (hy : plainName y.cls = true) (hav : (lg_sl av).length ≤ mL)
    (body : ∀ (z : MC) (A : Nat → Prop) (h : AH), z.2.1 = l → Fx z cd mL y.cls rt lev g A → Snd z mL g A (QF z g A mk) 0 (lv_args 0 av) [] h (f h)) : Ct l y cd mL rt lev av g mk f := by
  intro h a ha sz
  refine Met.ofW (cc := cd) (maxL := mL) (ret := rt) hy rfl ?_
  intro p e s m args below meth c s₁ B hml hv
  obtain ⟨rfl, hsz, hP, hK, hD0, hwf, hE⟩ := hv
  subst hsz
  have hD : va_D (gA g s.heap.size) (gW g h) := ⟨hD0.1, fun _ _ hk => gA_of hk⟩
  have hS : va_S (gA g s.heap.size) s.heap s.heap [] := va_S.rf
  have hts := atoms_spec (ws := .code y cd mL rt :: WL) B.pre
  have hl := lv_entry av (n := mL) hav
  rw [lg_entry_eq]
  exact body (p, l, e, _, s, m, av.toArray, below, meth, c) (gA g s.heap.size) h rfl ⟨B.exec, B.bytes, hml, findClass_of_methodNamed B.named, fun w hw => hts w (List.mem_cons_of_mem _ hw), hK, hwf, hE, fun q hq => Or.inr hq, B.returns, B.notSynchronized, rfl, fun r hr => Or.inl ⟨r, hr, rfl⟩⟩ a ha _ _ _ hl ⟨hP, hD, hS⟩
/-- what the words say of a method that is called on an object, or of a static one -/
def YV (y : MethodName) (cd : ByteArray) (mL : Nat) (rt : Option FieldType) (n : Nat) : Prop := Cond.instanceMethod y ∈ WL ∧ Cond.selects y.cls y y ∈ WL ∧ Cond.initialized y.cls ∈ WL ∧ Cond.code y cd mL rt ∈ WL ∧ (y.cls ≠ "java/lang/invoke/MethodHandle" ∧ y.cls ≠ "java/lang/invoke/VarHandle" ∧ (parseMethodDescriptor y.desc).map (fun d => d.parameters.length) = some n) ∧ mL ≤ 45
def YS (y : MethodName) (cd : ByteArray) (mL : Nat) (rt : Option FieldType) (n : Nat) : Prop := Cond.static y ∈ WL ∧ Cond.initialized y.cls ∈ WL ∧ Cond.code y cd mL rt ∈ WL ∧ (y.cls ≠ "java/lang/invoke/MethodHandle" ∧ y.cls ≠ "java/lang/invoke/VarHandle" ∧ (parseMethodDescriptor y.desc).map (fun d => d.parameters.length) = some n) ∧ mL ≤ 45
theorem wl_goodIn {y : MethodName} {cd : ByteArray} {mL : Nat} {rt : Option FieldType} (hc : Cond.code y cd mL rt ∈ WL) : GoodIn WL (Cond.code y cd mL rt :: WL) := by
  intro w hw
  rcases List.mem_cons.mp hw with rfl | h
  · exact ⟨hc, wl_good hc⟩
  · exact ⟨h, wl_good h⟩
section MC1
variable {z : MC} {cc : ByteArray} {nL : Nat} {own : String} {rt : Option FieldType} {lev : Nat} {g : GC} {A : Nat → Prop} {α : Type} {Qf : α → State → Prop} {pc : Nat} {lv : List (Nat × Value)} {st : List Value} {h : AH}
variable {y : MethodName} {cd : ByteArray} {mL : Nat} {rty : Option FieldType} {lev' n index : Nat} {As : List Value} {ρ : Type} {mk : ρ → Option Value} {f : AH → Option (ρ × AH)} {K : ρ → AH → Option α}
theorem bd_some {o : Option (ρ × AH)} {K : ρ → AH → Option α} {a : α} (hh : bd o K = some a) : ∃ r h', o = some (r, h') ∧ K r h' = some a := by
  unfold bd at hh
  split at hh
  · next b => exact ⟨b.1, b.2, rfl, hh⟩
  · cases hh
/-- behind a call: its world joins; what it answered stands on the stack -/
theorem s_back {av : Array Value} {r : ρ} {h' : AH} {st0 : List Value} {res : Option α} {a : α} {ls : Array Slot} {H : Heap} {locs : List Loc}
    (hr : va_Run z.1 z.2.1 z.2.2.1 (zR z) (zs z) (zm z) (za z) (zb z) (zme z) (zc z) H locs 0 0 0 0 (F0 (zm z) pc ls st0) st (rq g (gA g H.size) mk (r, h') av) (gA g H.size)) (F : Fx z cc nL own rt lev g A) (hw : Wd g A (zs z) h H locs) (hl : lv_has ls nL lv) (ha : res = some a)
    (kk : Snd z nL g A Qf (pc + 3) lv ((mk r).toList ++ st) h' res) : WW z H locs (Qf a) (F0 (zm z) pc ls st0) := by
  obtain ⟨hP, hD, hS⟩ := hw
  intro T hT X
  obtain ⟨v, st₀, t, T', L, e0, X', hL, e1, e2, ⟨⟨hv, hP1, hD1⟩, hz, hk⟩, go⟩ := hr T hT X
  cases hv
  rw [e0] at hz hk
  have hsub : ∀ q, gA g H.size q → A q := gA_sub F.2.2.2.2.2.2.2.2.2.2.2.2 F.2.2.2.2.2.2.2.2.1 hS.1
  have hS1 : va_S A (zs z).heap T'.heap (locs ++ L) := ⟨Nat.le_trans hS.1 (by rw [e1]; exact hz), fun q h1 h2 => by
      rw [e1, hk q (Nat.lt_of_lt_of_le h1 hS.1) (fun w => h2 (hsub q w))]
      exact hS.2.1 q h1 h2, fun q hq => by
      rcases List.mem_append.mp hq with h | h
      · exact hS.2.2 q h
      · exact hsub _ (hL q h)⟩
  obtain ⟨t2, a1, b1⟩ := kk a ha ls T'.heap (locs ++ L) hl ⟨by rw [e1]; exact hP1, hD1.weaken (fun _ q _ w => hsub q.1 w), hS1⟩ T' rfl X'
  exact ⟨t2, go t2 a1, b1⟩
theorem fx_pre (F : Fx z cc nL own rt lev g A) {H : Heap} {locs : List Loc} (hw : Wd g A (zs z) h H locs) {av : List Value} :
    FrameBlind (va_Pc av (fun U => U.heap.size = H.size ∧ va_P (gD g) vwCl (gW g h) U.heap ∧ va_K (gD g) vwCl (tys g) U ∧ va_D (fun _ => True) (gW g h) ∧ wfL (gL g) ∧ EV g (gA g H.size) U)) ∧ ∀ U : State, U.heap = H → (zs z).WarmedH U.vm → va_Pc av (fun U => U.heap.size = H.size ∧ va_P (gD g) vwCl (gW g h) U.heap ∧ va_K (gD g) vwCl (tys g) U ∧ va_D (fun _ => True) (gW g h) ∧ wfL (gL g) ∧ EV g (gA g H.size) U) av.toArray U := by
  obtain ⟨hP, hD, hS⟩ := hw
  obtain ⟨hx, hb, hml, hown, hts, hK, hwf, hE, hAn, -, -, -, hAr⟩ := id F
  have hsub : ∀ q, gA g H.size q → A q := gA_sub hAr hAn hS.1
  refine ⟨fun a U f mk q => ?_, fun U hU hW => ⟨rfl, by rw [hU], by rw [hU]; exact hP, va_K.moved hW.alike hK, hD.weaken (fun _ _ _ _ => trivial), hwf, hE.call hS hU hW hsub⟩⟩
  obtain ⟨q0, q1, qP, qK, qD, qw, qE⟩ := q
  exact ⟨q0, q1, qP, va_K.moved (u := U) (U := U.calling f mk a) (Vm.Alike.refl U.vm) qK, qD, qw, qE.frame⟩
theorem s_callV (F : Fx z cc nL own rt lev g A) (hY : YV y cd mL rty n) {b ci : Nat} {T : u_T} {N : Nat} (hC : Ct z.2.1 y cd mL rty lev' (.ref (gad g b) :: As) g mk f) (hlev : lev' + 1 ≤ lev) (hlk : Cond.methodLink own index y ∈ WL) (ho : (gL g)[b]? = some (.inl ci)) (hc : vwCl[ci]? = some (y.cls, T, N)) (hn : As.length = n) {st0 : List Value} (hst : st0 = As.reverse ++ .ref (gad g b) :: st) (hroom : (st.map fun v => v.category).sum ≤ 8) (d : decode cc pc = .ok (.invokevirtual index, 3))
    (kk : ∀ (r : ρ) (h' : AH), f h = some (r, h') → Snd z nL g A Qf (pc + 3) lv ((mk r).toList ++ st) h' (K r h')) : Snd z nL g A Qf pc lv st0 h (bd (f h) K) := by
  intro a ha ls H locs hl hw
  obtain ⟨r, h', hf, ha⟩ := bd_some ha
  have hp := fx_pre F hw (av := .ref (gad g b) :: As)
  obtain ⟨hx, hb, hml, hown, hts, hK, -, -, -, -, -, hR, -⟩ := id F
  refine s_back (va_runV (n := n) (As := As) (rest := st) (b := gad g b) (C := y.cls) (bytes := cd) (maxL := mL) (ret := rty) (nL := nL) ⟨hx, hb, hml, hown, hts⟩ (hC h (r, h') hf H.size) ⟨callB_of n hts (wl_goodIn hY.2.2.2.1) rfl rfl rfl (hts _ hY.2.2.1) (hts _ hlk) hY.2.2.2.2.1 ⟨?_, ?_⟩, hts _ hY.1, hts _ hY.2.1⟩ ⟨hp.1, va_recv hK hw.1 hc (conc_get ho), hp.2⟩ rfl hn hl.1 hst (lv_room hroom) d ?_) F hw hl ha (kk r h' hf)
  · rw [hR]; exact hlev
  · rw [hR]; show 8 + (mL + 11) + 64 * lev' ≤ 64 * lev; have := hY.2.2.2.2.2; omega
  · rw [hR]; exact ⟨Nat.zero_le _, Nat.zero_le _⟩
theorem s_callS (F : Fx z cc nL own rt lev g A) (hY : YS y cd mL rty n) (hC : Ct z.2.1 y cd mL rty lev' As g mk f) (hlev : lev' + 1 ≤ lev) (hlk : Cond.methodLink own index y ∈ WL) (hn : As.length = n) {st0 : List Value} (hst : st0 = As.reverse ++ st) (hroom : (st.map fun v => v.category).sum ≤ 8) (d : decode cc pc = .ok (.invokestatic index, 3))
    (kk : ∀ (r : ρ) (h' : AH), f h = some (r, h') → Snd z nL g A Qf (pc + 3) lv ((mk r).toList ++ st) h' (K r h')) : Snd z nL g A Qf pc lv st0 h (bd (f h) K) := by
  intro a ha ls H locs hl hw
  obtain ⟨r, h', hf, ha⟩ := bd_some ha
  have hp := fx_pre F hw (av := As)
  obtain ⟨hx, hb, hml, hown, hts, hK, -, -, -, -, -, hR, -⟩ := id F
  refine s_back (va_runS (n := n) (As := As) (rest := st) (bytes := cd) (maxL := mL) (ret := rty) (nL := nL) ⟨hx, hb, hml, hown, hts⟩ (hC h (r, h') hf H.size) ⟨callB_of n hts (wl_goodIn hY.2.2.1) rfl rfl rfl (hts _ hY.2.1) (hts _ hlk) hY.2.2.2.1 ⟨?_, ?_⟩, hts _ hY.1⟩ hp rfl hn hl.1 hst (lv_room hroom) d ?_) F hw hl ha (kk r h' hf)
  · rw [hR]; exact hlev
  · rw [hR]; show 8 + (mL + 11) + 64 * lev' ≤ 64 * lev; have := hY.2.2.2.2; omega
  · rw [hR]; exact ⟨Nat.zero_le _, Nat.zero_le _⟩
theorem s_callSN (F : Fx z cc nL own rt lev g A) (hY : YS y cd mL rty n) (hC : Ct z.2.1 y cd mL rty lev' As g mk f) (hlev : lev' + 1 ≤ lev) (hlk : (own, index, y) ∈ nestM) (hn : As.length = n) {st0 : List Value} (hst : st0 = As.reverse ++ st) (hroom : (st.map fun v => v.category).sum ≤ 8) (d : decode cc pc = .ok (.invokestatic index, 3))
    (kk : ∀ (r : ρ) (h' : AH), f h = some (r, h') → Snd z nL g A Qf (pc + 3) lv ((mk r).toList ++ st) h' (K r h')) : Snd z nL g A Qf pc lv st0 h (bd (f h) K) := by
  intro a ha ls H locs hl hw
  obtain ⟨r, h', hf, ha⟩ := bd_some ha
  have hp := fx_pre F hw (av := As)
  obtain ⟨hx, hb, hml, hown, hts, hK, -, hE, -, -, -, hR, -⟩ := id F
  refine s_back (va_runSN (n := n) (As := As) (rest := st) (bytes := cd) (maxL := mL) (ret := rty) (nL := nL) (host := "ArchTrades") ⟨hx, hb, hml, hown, hts⟩ (hC h (r, h') hf H.size) ⟨va_cnB n hts (wl_goodIn hY.2.2.1) rfl rfl rfl (hE.1 _ hlk) (hts _ hY.2.1) hY.2.2.2.1 ⟨?_, ?_⟩, hts _ hY.1, trivial⟩ hp rfl hn hl.1 hst (lv_room hroom) d ?_) F hw hl ha (kk r h' hf)
  · rw [hR]; exact hlev
  · rw [hR]; show 8 + (mL + 11) + 64 * lev' ≤ 64 * lev; have := hY.2.2.2.2; omega
  · rw [hR]; exact ⟨Nat.zero_le _, Nat.zero_le _⟩
theorem s_callVi {f : AH → Option (Int32 × AH)} {K : Int32 → AH → Option α} (F : Fx z cc nL own rt lev g A) (hY : YV y cd mL rty n) {b ci : Nat} {T : u_T} {N : Nat} (hC : Ct z.2.1 y cd mL rty lev' (.ref (gad g b) :: As) g mkI f) (hlev : lev' + 1 ≤ lev) (hlk : Cond.methodLink own index y ∈ WL) (ho : (gL g)[b]? = some (.inl ci)) (hc : vwCl[ci]? = some (y.cls, T, N)) (hn : As.length = n) {st0 : List Value} (hst : st0 = As.reverse ++ .ref (gad g b) :: st) (hroom : (st.map fun v => v.category).sum ≤ 8) (d : decode cc pc = .ok (.invokevirtual index, 3))
    (kk : ∀ (r : Int32) (h' : AH), f h = some (r, h') → Snd z nL g A Qf (pc + 3) lv (.int r :: st) h' (K r h')) : Snd z nL g A Qf pc lv st0 h (bd (f h) K) := s_callV F hY hC hlev hlk ho hc hn hst hroom d kk
theorem s_callVl {f : AH → Option (Int64 × AH)} {K : Int64 → AH → Option α} (F : Fx z cc nL own rt lev g A) (hY : YV y cd mL rty n) {b ci : Nat} {T : u_T} {N : Nat} (hC : Ct z.2.1 y cd mL rty lev' (.ref (gad g b) :: As) g mkL f) (hlev : lev' + 1 ≤ lev) (hlk : Cond.methodLink own index y ∈ WL) (ho : (gL g)[b]? = some (.inl ci)) (hc : vwCl[ci]? = some (y.cls, T, N)) (hn : As.length = n) {st0 : List Value} (hst : st0 = As.reverse ++ .ref (gad g b) :: st) (hroom : (st.map fun v => v.category).sum ≤ 8) (d : decode cc pc = .ok (.invokevirtual index, 3))
    (kk : ∀ (r : Int64) (h' : AH), f h = some (r, h') → Snd z nL g A Qf (pc + 3) lv (.long r :: st) h' (K r h')) : Snd z nL g A Qf pc lv st0 h (bd (f h) K) := s_callV F hY hC hlev hlk ho hc hn hst hroom d kk
theorem s_callVr {f : AH → Option (Nat × AH)} {K : Nat → AH → Option α} (F : Fx z cc nL own rt lev g A) (hY : YV y cd mL rty n) {b ci : Nat} {T : u_T} {N : Nat} (hC : Ct z.2.1 y cd mL rty lev' (.ref (gad g b) :: As) g (mkR g) f) (hlev : lev' + 1 ≤ lev) (hlk : Cond.methodLink own index y ∈ WL) (ho : (gL g)[b]? = some (.inl ci)) (hc : vwCl[ci]? = some (y.cls, T, N)) (hn : As.length = n) {st0 : List Value} (hst : st0 = As.reverse ++ .ref (gad g b) :: st) (hroom : (st.map fun v => v.category).sum ≤ 8) (d : decode cc pc = .ok (.invokevirtual index, 3))
    (kk : ∀ (r : Nat) (h' : AH), f h = some (r, h') → Snd z nL g A Qf (pc + 3) lv (.ref (gad g r) :: st) h' (K r h')) : Snd z nL g A Qf pc lv st0 h (bd (f h) K) := s_callV F hY hC hlev hlk ho hc hn hst hroom d kk
theorem s_callVu {f : AH → Option (Unit × AH)} {K : Unit → AH → Option α} (F : Fx z cc nL own rt lev g A) (hY : YV y cd mL rty n) {b ci : Nat} {T : u_T} {N : Nat} (hC : Ct z.2.1 y cd mL rty lev' (.ref (gad g b) :: As) g mkU f) (hlev : lev' + 1 ≤ lev) (hlk : Cond.methodLink own index y ∈ WL) (ho : (gL g)[b]? = some (.inl ci)) (hc : vwCl[ci]? = some (y.cls, T, N)) (hn : As.length = n) {st0 : List Value} (hst : st0 = As.reverse ++ .ref (gad g b) :: st) (hroom : (st.map fun v => v.category).sum ≤ 8) (d : decode cc pc = .ok (.invokevirtual index, 3))
    (kk : ∀ (r : Unit) (h' : AH), f h = some (r, h') → Snd z nL g A Qf (pc + 3) lv (st) h' (K r h')) : Snd z nL g A Qf pc lv st0 h (bd (f h) K) := s_callV F hY hC hlev hlk ho hc hn hst hroom d kk
theorem s_callSi {f : AH → Option (Int32 × AH)} {K : Int32 → AH → Option α} (F : Fx z cc nL own rt lev g A) (hY : YS y cd mL rty n) (hC : Ct z.2.1 y cd mL rty lev' As g mkI f) (hlev : lev' + 1 ≤ lev) (hlk : Cond.methodLink own index y ∈ WL) (hn : As.length = n) {st0 : List Value} (hst : st0 = As.reverse ++ st) (hroom : (st.map fun v => v.category).sum ≤ 8) (d : decode cc pc = .ok (.invokestatic index, 3))
    (kk : ∀ (r : Int32) (h' : AH), f h = some (r, h') → Snd z nL g A Qf (pc + 3) lv (.int r :: st) h' (K r h')) : Snd z nL g A Qf pc lv st0 h (bd (f h) K) := s_callS F hY hC hlev hlk hn hst hroom d kk
theorem s_callSl {f : AH → Option (Int64 × AH)} {K : Int64 → AH → Option α} (F : Fx z cc nL own rt lev g A) (hY : YS y cd mL rty n) (hC : Ct z.2.1 y cd mL rty lev' As g mkL f) (hlev : lev' + 1 ≤ lev) (hlk : Cond.methodLink own index y ∈ WL) (hn : As.length = n) {st0 : List Value} (hst : st0 = As.reverse ++ st) (hroom : (st.map fun v => v.category).sum ≤ 8) (d : decode cc pc = .ok (.invokestatic index, 3))
    (kk : ∀ (r : Int64) (h' : AH), f h = some (r, h') → Snd z nL g A Qf (pc + 3) lv (.long r :: st) h' (K r h')) : Snd z nL g A Qf pc lv st0 h (bd (f h) K) := s_callS F hY hC hlev hlk hn hst hroom d kk
theorem s_callSr {f : AH → Option (Nat × AH)} {K : Nat → AH → Option α} (F : Fx z cc nL own rt lev g A) (hY : YS y cd mL rty n) (hC : Ct z.2.1 y cd mL rty lev' As g (mkR g) f) (hlev : lev' + 1 ≤ lev) (hlk : Cond.methodLink own index y ∈ WL) (hn : As.length = n) {st0 : List Value} (hst : st0 = As.reverse ++ st) (hroom : (st.map fun v => v.category).sum ≤ 8) (d : decode cc pc = .ok (.invokestatic index, 3))
    (kk : ∀ (r : Nat) (h' : AH), f h = some (r, h') → Snd z nL g A Qf (pc + 3) lv (.ref (gad g r) :: st) h' (K r h')) : Snd z nL g A Qf pc lv st0 h (bd (f h) K) := s_callS F hY hC hlev hlk hn hst hroom d kk
theorem s_callSu {f : AH → Option (Unit × AH)} {K : Unit → AH → Option α} (F : Fx z cc nL own rt lev g A) (hY : YS y cd mL rty n) (hC : Ct z.2.1 y cd mL rty lev' As g mkU f) (hlev : lev' + 1 ≤ lev) (hlk : Cond.methodLink own index y ∈ WL) (hn : As.length = n) {st0 : List Value} (hst : st0 = As.reverse ++ st) (hroom : (st.map fun v => v.category).sum ≤ 8) (d : decode cc pc = .ok (.invokestatic index, 3))
    (kk : ∀ (r : Unit) (h' : AH), f h = some (r, h') → Snd z nL g A Qf (pc + 3) lv (st) h' (K r h')) : Snd z nL g A Qf pc lv st0 h (bd (f h) K) := s_callS F hY hC hlev hlk hn hst hroom d kk
theorem s_callSNi {f : AH → Option (Int32 × AH)} {K : Int32 → AH → Option α} (F : Fx z cc nL own rt lev g A) (hY : YS y cd mL rty n) (hC : Ct z.2.1 y cd mL rty lev' As g mkI f) (hlev : lev' + 1 ≤ lev) (hlk : (own, index, y) ∈ nestM) (hn : As.length = n) {st0 : List Value} (hst : st0 = As.reverse ++ st) (hroom : (st.map fun v => v.category).sum ≤ 8) (d : decode cc pc = .ok (.invokestatic index, 3))
    (kk : ∀ (r : Int32) (h' : AH), f h = some (r, h') → Snd z nL g A Qf (pc + 3) lv (.int r :: st) h' (K r h')) : Snd z nL g A Qf pc lv st0 h (bd (f h) K) := s_callSN F hY hC hlev hlk hn hst hroom d kk
theorem s_callSNl {f : AH → Option (Int64 × AH)} {K : Int64 → AH → Option α} (F : Fx z cc nL own rt lev g A) (hY : YS y cd mL rty n) (hC : Ct z.2.1 y cd mL rty lev' As g mkL f) (hlev : lev' + 1 ≤ lev) (hlk : (own, index, y) ∈ nestM) (hn : As.length = n) {st0 : List Value} (hst : st0 = As.reverse ++ st) (hroom : (st.map fun v => v.category).sum ≤ 8) (d : decode cc pc = .ok (.invokestatic index, 3))
    (kk : ∀ (r : Int64) (h' : AH), f h = some (r, h') → Snd z nL g A Qf (pc + 3) lv (.long r :: st) h' (K r h')) : Snd z nL g A Qf pc lv st0 h (bd (f h) K) := s_callSN F hY hC hlev hlk hn hst hroom d kk
theorem s_callSNr {f : AH → Option (Nat × AH)} {K : Nat → AH → Option α} (F : Fx z cc nL own rt lev g A) (hY : YS y cd mL rty n) (hC : Ct z.2.1 y cd mL rty lev' As g (mkR g) f) (hlev : lev' + 1 ≤ lev) (hlk : (own, index, y) ∈ nestM) (hn : As.length = n) {st0 : List Value} (hst : st0 = As.reverse ++ st) (hroom : (st.map fun v => v.category).sum ≤ 8) (d : decode cc pc = .ok (.invokestatic index, 3))
    (kk : ∀ (r : Nat) (h' : AH), f h = some (r, h') → Snd z nL g A Qf (pc + 3) lv (.ref (gad g r) :: st) h' (K r h')) : Snd z nL g A Qf pc lv st0 h (bd (f h) K) := s_callSN F hY hC hlev hlk hn hst hroom d kk
theorem s_callSNu {f : AH → Option (Unit × AH)} {K : Unit → AH → Option α} (F : Fx z cc nL own rt lev g A) (hY : YS y cd mL rty n) (hC : Ct z.2.1 y cd mL rty lev' As g mkU f) (hlev : lev' + 1 ≤ lev) (hlk : (own, index, y) ∈ nestM) (hn : As.length = n) {st0 : List Value} (hst : st0 = As.reverse ++ st) (hroom : (st.map fun v => v.category).sum ≤ 8) (d : decode cc pc = .ok (.invokestatic index, 3))
    (kk : ∀ (r : Unit) (h' : AH), f h = some (r, h') → Snd z nL g A Qf (pc + 3) lv (st) h' (K r h')) : Snd z nL g A Qf pc lv st0 h (bd (f h) K) := s_callSN F hY hC hlev hlk hn hst hroom d kk
/-- a call on a String constant -/
theorem s_callK {f : AH → Option (Int32 × AH)} {K : Int32 → AH → Option α} (F : Fx z cc nL own rt lev g A) (hY : YV y cd mL rty n) {i : Nat} (hC : Ct z.2.1 y cd mL rty lev' (.ref (gK g i) :: As) g mkI f) (hlev : lev' + 1 ≤ lev) (hlk : Cond.methodLink own index y ∈ WL) (hi : i < 8) (hy : y.cls = "java/lang/String") (hn : As.length = n) {st0 : List Value} (hst : st0 = As.reverse ++ .ref (gK g i) :: st) (hroom : (st.map fun v => v.category).sum ≤ 8) (d : decode cc pc = .ok (.invokevirtual index, 3))
    (kk : ∀ (r : Int32) (h' : AH), f h = some (r, h') → Snd z nL g A Qf (pc + 3) lv (.int r :: st) h' (K r h')) : Snd z nL g A Qf pc lv st0 h (bd (f h) K) := by
  intro a ha ls H locs hl hw
  obtain ⟨r, h', hf, ha⟩ := bd_some ha
  have hp := fx_pre F hw (av := .ref (gK g i) :: As)
  obtain ⟨hx, hb, hml, hown, hts, hK, -, hE, -, -, -, hR, -⟩ := id F
  have hrc := vk_recv hE.2.2.2.1 hi hw.2.2
  rw [← hy] at hrc
  refine s_back (va_runV (n := n) (As := As) (rest := st) (b := gK g i) (C := y.cls) (bytes := cd) (maxL := mL) (ret := rty) (nL := nL) ⟨hx, hb, hml, hown, hts⟩ (hC h (r, h') hf H.size) ⟨callB_of n hts (wl_goodIn hY.2.2.2.1) rfl rfl rfl (hts _ hY.2.2.1) (hts _ hlk) hY.2.2.2.2.1 ⟨?_, ?_⟩, hts _ hY.1, hts _ hY.2.1⟩ ⟨hp.1, hrc, hp.2⟩ rfl hn hl.1 hst (lv_room hroom) d ?_) F hw hl ha (kk r h' hf)
  · rw [hR]; exact hlev
  · rw [hR]; show 8 + (mL + 11) + 64 * lev' ≤ 64 * lev; have := hY.2.2.2.2.2; omega
  · rw [hR]; exact ⟨Nat.zero_le _, Nat.zero_le _⟩
/-- System.arraycopy between rows of ints -/
def cpy (h : AH) (r0 n0 : Nat) (sp : Int32) (r1 n1 : Nat) (dp n : Int32) : Option AH := if sp < 0 ∨ dp < 0 ∨ n < 0 ∨ n0 < sp.toNatClampNeg + n.toNatClampNeg ∨ n1 < dp.toNatClampNeg + n.toNatClampNeg then none else some (hput h r1 (va_cpy (h r0) (h r1) sp.toNatClampNeg dp.toNatClampNeg n.toNatClampNeg))
def bh {α : Type} (o : Option AH) (K : AH → Option α) : Option α := match o with
  | some a => K a
  | none => none
theorem s_cpy (F : Fx z cc nL own rt lev g A) (hlev : 1 ≤ lev) {r0 n0 r1 n1 : Nat} {sp dp k : Int32} {K : AH → Option α} (ho0 : (gL g)[r0]? = some (.inr (0, n0))) (ho1 : (gL g)[r1]? = some (.inr (0, n1))) (hlk : Cond.methodLink own index arraycopyName ∈ WL) (hnat : Cond.native arraycopyName ∈ WL) (hstt : Cond.static arraycopyName ∈ WL) (hini : Cond.initialized "java/lang/System" ∈ WL) (hroom : (st.map fun v => v.category).sum ≤ 8) (d : decode cc pc = .ok (.invokestatic index, 3))
    (kk : ∀ h' : AH, Snd z nL g A Qf (pc + 3) lv st h' (K h')) : Snd z nL g A Qf pc lv (.int k :: .int dp :: .ref (gad g r1) :: .int sp :: .ref (gad g r0) :: st) h (bh (cpy h r0 n0 sp r1 n1 dp k) K) := by
  intro a ha ls H locs hl hw
  unfold bh at ha
  split at ha
  case h_2 => cases ha
  case h_1 h' hc =>
  unfold cpy at hc
  split at hc
  case isTrue => cases hc
  case isFalse hn =>
  have hn' : ¬ sp < 0 ∧ ¬ dp < 0 ∧ ¬ k < 0 ∧ ¬ n0 < sp.toNatClampNeg + k.toNatClampNeg ∧ ¬ n1 < dp.toNatClampNeg + k.toNatClampNeg := by
    simpa [not_or] using hn
  obtain ⟨e1, e2, e3, e4, e5⟩ := hn'
  obtain ⟨hP, hD, hS⟩ := hw
  obtain ⟨hx, hb, hml, hown, hts, hK, -, -, -, -, -, hR, -⟩ := id F
  refine va_copyi hx hb (hml.trans hl.1.symm) hown (hts _ hlk) (hts _ hnat) (hts _ hstt) (hts _ hini) hK hP hD hS r0 r1 0 0 (conc_get ho0) (conc_get ho1) rfl rfl rfl e1 e2 e3 (Nat.not_lt.mp e4) (Nat.not_lt.mp e5) (fun _ _ => rfl) ?_ ?_ d (fun H1 locs1 hP1 hD1 hS1 => ?_)
  · rw [hR]; exact hlev
  · rw [hR]; show _ + (nativeFrameWords "java/lang/System" "arraycopy" 5 + 11) ≤ 64 * lev
    have hq : nativeFrameWords "java/lang/System" "arraycopy" 5 + 11 ≤ 56 := by decide +kernel
    omega
  · have e : (gW g h).set r1 (gad g r1, .inl (gtc g 0, n1, .inl (va_cpy (h r0) (h r1) sp.toNatClampNeg dp.toNatClampNeg k.toNatClampNeg))) = gW g (hput h r1 (va_cpy (h r0) (h r1) sp.toNatClampNeg dp.toNatClampNeg k.toNatClampNeg)) := conc_setA ho1
    rw [e] at hP1 hD1
    cases hc
    exact kk _ a ha ls H1 locs1 hl ⟨hP1, hD1, hS1⟩
theorem s_mmax (F : Fx z cc nL own rt lev g A) (hlev : 1 ≤ lev) {x w : Int32} {res : Option α} (hlk : Cond.methodLink own index Lib.Math.max.name ∈ WL) (hstt : Cond.static Lib.Math.max.name ∈ WL) (hini : Cond.initialized "java/lang/Math" ∈ WL) (hcode : Cond.code Lib.Math.max.name Lib.Math.max.code 2 (some .int) ∈ WL) (hroom : (st.map fun v => v.category).sum ≤ 8) (d : decode cc pc = .ok (.invokestatic index, 3))
    (kk : Snd z nL g A Qf (pc + 3) lv (.int (if x < w then w else x) :: st) h res) : Snd z nL g A Qf pc lv (.int w :: .int x :: st) h res := by
  intro a ha ls H locs hl hw
  obtain ⟨hx, hb, hml, hown, hts, hK, -, -, -, -, -, hR, -⟩ := id F
  refine va_mmax hx hb (hml.trans hl.1.symm) hown (hts _ hlk) (hts _ hstt) (hts _ hini) (hts _ hcode) ?_ ?_ ?_ ?_ d (kk a ha ls H locs hl hw)
  · rw [hR]; exact hlev
  · rw [hR]; show _ + 13 ≤ 64 * lev; omega
  · rw [hR]; exact Nat.zero_le _
  · rw [hR]; exact Nat.zero_le _
end MC1
