/-! ===== the search for places of the one that is held against the model ===== -/
def q_Fx (h0 h : AH) : Prop := (∀ c, c ≠ 49 → c ≠ 55 → c ≠ 56 → c ≠ 57 → h c = h0 c) ∧ ∀ k, k ≠ 10 → h 49 k = h0 49 k
def q_F (E : Nat → Nat → Prop) (T : Nat → Bool) (b p : Nat) : Prop := E b p ∧ T p = false
def q_Ox (h0 : AH) (d n N : Nat) (E : Nat → Nat → Prop) (T : Nat → Bool) : Prop :=
  (∀ h, q_Fx h0 h → ∀ b a, b < 6 → a < 6 → ∃ x, f_X3_openHours 49 (nI b) (nI a) h = some (x, h) ∧ (b < N → a < n → ∀ t, t < 32 → (bt x t = true ↔ t < 12 ∧ E b (72 * d + 6 * t + a)))) ∧ (n ≤ 6 ∧ N ≤ 6) ∧ (h0 49 8 = nI n ∧ h0 49 9 = nI N) ∧ (∀ b p, E b p → b < N ∧ ∃ t a, t < 12 ∧ a < n ∧ p = 72 * d + 6 * t + a) ∧ ∀ a, a < n → ∀ t, t < 12 → (bt (h0 54 a) t = true ↔ T (72 * d + 6 * t + a) = true)
/-- a matching, as hours and arches; X: places that are taken beside -/
def q_CM (h : AH) (d n : Nat) (T : Nat → Bool) (S : Nat → Bool) (f : Nat → Nat) (X : Nat → Prop) : Prop :=
  RQ (h 56) ∧ (∀ b, b < 6 → S b = false → h 57 b = 0) ∧ (∀ b, S b = true → b < 6 ∧ ∃ t a, t < 12 ∧ a < n ∧ f b = 72 * d + 6 * t + a ∧ h 56 b = nI a ∧ ∀ i, i < 32 → bt (h 57 b) i = decide (i = t)) ∧ ∀ a, a < n → ∀ t, t < 12 → (bt (h 55 a) t = true ↔ T (72 * d + 6 * t + a) = true ∨ X (72 * d + 6 * t + a) ∨ ∃ b, S b = true ∧ f b = 72 * d + 6 * t + a)
theorem q_CM_X {h : AH} {d n : Nat} {T S : Nat → Bool} {f : Nat → Nat} {X Y : Nat → Prop} (e : ∀ p, X p ↔ Y p) (hM : q_CM h d n T S f X) : q_CM h d n T S f Y := by
  obtain ⟨h1, h2, h3, h4⟩ := hM
  exact ⟨h1, h2, h3, fun a ha t ht => by rw [h4 a ha t ht, e]⟩
theorem q_CM_c {h h2 : AH} {d n : Nat} {T S : Nat → Bool} {f : Nat → Nat} {X : Nat → Prop} (e5 : h2 55 = h 55) (e6 : h2 56 = h 56) (e7 : h2 57 = h 57) (hM : q_CM h d n T S f X) : q_CM h2 d n T S f X := by
  unfold q_CM
  rw [e5, e6, e7]
  exact hM
def q_FP (h0 : AH) (d n : Nat) (E : Nat → Nat → Prop) (T S : Nat → Bool) (f : Nat → Nat) (b0 s : Nat) (res : Option (Int32 × AH)) : Prop :=
  (∃ (h' : AH) (f' : Nat → Nat), res = some (1, h') ∧ q_Fx h0 h' ∧ q_CM h' d n T (fun i => S i || decide (i = b0)) f' (fun p => S b0 = true ∧ p = f b0) ∧ Mt (q_F E T) (fun i => S i || decide (i = b0)) f' ∧ (∀ i, ab s i = true → i ≠ b0 → f' i = f i) ∧ (S b0 = true → ∀ i, S i = true → f' i ≠ f b0)) ∨
  (∃ (h' : AH) (s' : Nat), res = some (0, h') ∧ q_Fx h0 h' ∧ q_CM h' d n T S f (fun _ => False) ∧ h' 49 10 = nI s' ∧ s' < 64 ∧ (∀ i, ab s i = true → ab s' i = true) ∧ (∀ i, ab s' i = true → ab s i = true ∨ S i = true) ∧ ∀ i, (i = b0 ∨ (ab s' i = true ∧ ab s i = false)) → ∀ p, q_F E T i p → ∃ j, ab s' j = true ∧ S j = true ∧ f j = p)
theorem x_givePlace {b : Nat} (hb : b < 6) (x y : Int32) (h : AH) : f_X3_givePlace 49 (nI b) x y h = some ((), hset (hset h 56 b x) 57 b y) := by
  unfold f_X3_givePlace
  rw [ck_nI _ hb (by decide), lt_s2, ck_nI _ hb (by decide), lt_s2, cl_nI (by omega)]
theorem x_find77 {h0 : AH} {d n N : Nat} {E : Nat → Nat → Prop} {T S : Nat → Bool} {f : Nat → Nat} {b0 s dep : Nat} {rc : Nat → Int32 → Int32 → AH → Option (Int32 × AH)} (hO : q_Ox h0 d n N E T) (hMt : Mt (q_F E T) S f) (hb0 : b0 < N) (hs0 : ab s b0 = true)
    (hrc : ∀ (s2 o : Nat) (h : AH), s2 < 64 → o < N → ab s2 o = true → cnt (ab s) 6 + 1 ≤ cnt (ab s2) 6 → q_Fx h0 h → q_CM h d n T S f (fun _ => False) → h 49 10 = nI s2 → q_FP h0 d n E T S f o s2 (rc 49 (nI o) (nI dep + 1) h))
    (hcl : ∀ p, q_F E T b0 p → ∃ j, S j = true ∧ f j = p) : ∀ (r fuel o s1 : Nat) (h : AH), o + r = N → r < fuel → s1 < 64 → q_Fx h0 h → q_CM h d n T S f (fun _ => False) → h 49 10 = nI s1 → (∀ i, ab s i = true → ab s1 i = true) → (∀ i, ab s1 i = true → ab s i = true ∨ S i = true) → (∀ i, ab s1 i = true → ab s i = false → ∀ p, q_F E T i p → ∃ j, ab s1 j = true ∧ S j = true ∧ f j = p) → (∀ j, j < o → S j = true → q_F E T b0 (f j) → ab s1 j = true) → q_FP h0 d n E T S f b0 s (f_X3_findPlace_77 49 rc fuel (nI b0) (nI dep) (nI o) h) := by
  obtain ⟨o1, ⟨o2, o2'⟩, ⟨o3, o3'⟩, o4, o5⟩ := hO
  have hsN : ∀ j, S j = true → j < N := fun j hj => (o4 _ _ (hMt.1 j hj).1).1
  intro r
  induction r with
  | zero =>
    intro fuel o s1 h ho hf hs hF hM h10 a1 a2 a3 a4
    obtain ⟨m, rfl⟩ : ∃ m, fuel = m + 1 := ⟨fuel - 1, by omega⟩
    rw [f_X3_findPlace_77, hF.2 9 (by decide), o3', if_pos (nI_le (by omega) (by omega))]
    refine Or.inr ⟨h, s1, rfl, hF, hM, h10, hs, a1, a2, fun i hi p hE => ?_⟩
    rcases hi with rfl | ⟨q1, q2⟩
    · obtain ⟨j, j1, j2⟩ := hcl p hE
      exact ⟨j, a4 j (by have := hsN j j1; omega) j1 (by rw [j2]; exact hE), j1, j2⟩
    · exact a3 i q1 q2 p hE
  | succ r ih =>
    intro fuel o s1 h ho hf hs hF hM h10 a1 a2 a3 a4
    obtain ⟨m, rfl⟩ : ∃ m, fuel = m + 1 := ⟨fuel - 1, by omega⟩
    have ho6 : o < 6 := by omega
    have hM' := hM
    obtain ⟨c1, c2, c3, c4⟩ := hM'
    obtain ⟨v, v1, v2⟩ := c1 o ho6
    rw [f_X3_findPlace_77, hF.2 9 (by decide), o3', if_neg (nI_ge (by omega) (by omega)), ck_nI _ ho6 (by decide), cl_nI (by omega), lt_s2, ck_nI _ ho6 (by decide), lt_s2, h10, x_askd hs ho6, bd_s]
    cases hab : ab s1 o with
    | true =>
      rw [if_pos rfl, if_pos (show nI 1 = 1 from rfl), lt_s2, nI_1]
      refine ih m (o + 1) s1 h (by omega) (by omega) hs hF hM h10 a1 a2 a3 (fun j hj hsj hE => ?_)
      by_cases c : j = o
      · rw [c]; exact hab
      · exact a4 j (by omega) hsj hE
    | false =>
      obtain ⟨x, x1, x2⟩ := o1 h hF b0 v (by omega) v1
      rw [if_neg (show ¬ (false = true) by decide), if_neg (show ¬ nI 0 = 1 by decide), show h (49 + 7) o = nI v from v2, x1, bd_s]
      by_cases hz : (x &&& h (49 + 8) o) = 0
      · rw [if_pos hz, lt_s2, nI_1]
        refine ih m (o + 1) s1 h (by omega) (by omega) hs hF hM h10 a1 a2 a3 (fun j hj hsj hE => ?_)
        by_cases c : j = o
        · exfalso
          subst c
          obtain ⟨-, t, a, t1, t2, t3, t4, t5⟩ := c3 j hsj
          have hva : v = a := (nI_eq (by omega) (by omega)).mp (v2.symm.trans t4)
          subst hva
          have hx := (x2 hb0 t2 t (by omega)).mpr ⟨t1, by rw [← t3]; exact hE.1⟩
          have hw := bt_z.mp hz t (by omega)
          rw [bt_and, hx, show h (49 + 8) j = h 57 j from rfl, t5 t (by omega), decide_eq_true rfl] at hw
          exact absurd hw (by decide)
        · exact a4 j (by omega) hsj hE
      · rw [if_neg hz]
        have hso : S o = true := by
          cases q : S o with
          | true => rfl
          | false =>
            exfalso
            apply hz
            rw [show h (49 + 8) o = 0 from c2 o ho6 q]
            exact bt_z.mpr (fun i hi => by rw [bt_and, bt_0, Bool.and_false])
        obtain ⟨-, t, a, t1, t2, t3, t4, t5⟩ := c3 o hso
        have hva : v = a := (nI_eq (by omega) (by omega)).mp (v2.symm.trans t4)
        subst hva
        have hEo : q_F E T b0 (f o) := by
          obtain ⟨i, i1, i2⟩ := bt_nz hz
          rw [bt_and, show h (49 + 8) o = h 57 o from rfl, t5 i i1] at i2
          have i3 : bt x i = true ∧ i = t := by simpa using i2
          have := ((x2 hb0 t2 i i1).mp i3.1).2
          rw [i3.2, ← t3] at this
          exact ⟨this, (hMt.1 o hso).2⟩
        obtain ⟨p1, p2⟩ := ab_or s1 hs o ho6 hab
        have pa := ab_add s1 hs o ho6 hab
        have paF : ∀ i, ab (s1 + 2 ^ o) i = (ab s1 i || decide (i = o)) := fun i => by
          by_cases c : i < 6
          · exact pa i c
          · rw [ab_hi p2 (by omega), ab_hi hs (by omega), decide_eq_false (by omega)]; rfl
        have bne : b0 ≠ o := fun e => by
          have := a1 b0 hs0
          rw [e, hab] at this
          exact absurd this (by decide)
        have ecn : cnt (ab (s1 + 2 ^ o)) 6 = cnt (ab s1) 6 + 1 := cnt_add ho6 hab pa
        have hcn : cnt (ab s) 6 ≤ cnt (ab s1) 6 := cnt_mono (fun i _ hi => a1 i hi)
        rw [lt_s2, h10, p1]
        have hFg : q_Fx h0 (hset h 49 10 (nI (s1 + 2 ^ o))) := ⟨fun c n1 n2 n3 n4 => by rw [hs_cell _ _ _ _ _ n1]; exact hF.1 c n1 n2 n3 n4, fun k hk => by rw [hs_place _ _ _ _ _ hk]; exact hF.2 k hk⟩
        have hMg : q_CM (hset h 49 10 (nI (s1 + 2 ^ o))) d n T S f (fun _ => False) := q_CM_c (hs_cell _ _ _ _ _ (by decide)) (hs_cell _ _ _ _ _ (by decide)) (hs_cell _ _ _ _ _ (by decide)) hM
        rcases hrc (s1 + 2 ^ o) o _ p2 (by omega) (by rw [paF]; simp) (by omega) hFg hMg (hs_self _ _ _ _) with ⟨h', f', r1, r2, r3, r4, r5, r6⟩ | ⟨h', s3, r1, r2, r3, r4, r5, r6, r7, r8⟩
        · have eS : (fun i => S i || decide (i = o)) = S := funext fun i => by
            by_cases c : i = o
            · rw [c, hso]; rfl
            · rw [decide_eq_false c, Bool.or_false]
          rw [eS] at r3 r4
          rw [r1, bd_s, if_neg n10, x_givePlace (by omega), bd_s]
          obtain ⟨g1, g2, g3, g4⟩ := r3
          have sor : ∀ i, (S i || decide (i = b0)) = true → S i = true ∨ i = b0 := fun i hi => by simpa using hi
          have k55 : hset (hset h' 56 b0 (nI v)) 57 b0 (h (49 + 8) o) 55 = h' 55 := by rw [hs_cell _ _ _ _ _ (by decide), hs_cell _ _ _ _ _ (by decide)]
          have k56 : hset (hset h' 56 b0 (nI v)) 57 b0 (h (49 + 8) o) 56 = upd (h' 56) b0 (nI v) := by rw [hs_cell _ _ _ _ _ (by decide), hs_row]
          have k57 : hset (hset h' 56 b0 (nI v)) 57 b0 (h (49 + 8) o) 57 = upd (h' 57) b0 (h 57 o) := by rw [hs_row, hs_cell _ _ _ _ _ (by decide)]
          have ko : ∀ c, c ≠ 56 → c ≠ 57 → hset (hset h' 56 b0 (nI v)) 57 b0 (h (49 + 8) o) c = h' c := fun c n1 n2 => by rw [hs_cell _ _ _ _ _ n2, hs_cell _ _ _ _ _ n1]
          generalize hset (hset h' 56 b0 (nI v)) 57 b0 (h (49 + 8) o) = g at k55 k56 k57 ko ⊢
          have fb0 : f' b0 = f b0 := r5 b0 (by rw [paF, a1 b0 hs0]; rfl) bne
          have sso : ∀ i, S i = true → f' i ≠ f o := r6 hso
          refine Or.inl ⟨g, fun i => if i = b0 then f o else f' i, rfl, ⟨fun c n1 n2 n3 n4 => by rw [ko c n3 n4]; exact r2.1 c n1 n2 n3 n4, fun k hk => by rw [ko 49 (by decide) (by decide)]; exact r2.2 k hk⟩, ⟨fun y hy => ?_, fun b hb hsb => ?_, fun b hsb => ?_, fun a2 ha2 t2' ht2 => ?_⟩, ⟨fun b hb => ?_, fun b c hb hc e => ?_⟩, fun i hi hne => ?_, fun hsb i hi => ?_⟩
          · rw [k56, upd_lit]
            split
            · exact ⟨v, v1, rfl⟩
            · exact g1 y hy
          · have hq : S b = false ∧ b ≠ b0 := by simpa using hsb
            rw [k57, upd_lit, if_neg hq.2]
            exact g2 b hb hq.1
          · by_cases c : b = b0
            · refine ⟨by omega, t, v, t1, t2, ?_, ?_, fun i hi => ?_⟩
              · show (if b = b0 then f o else f' b) = _
                rw [if_pos c]; exact t3
              · rw [k56, upd_lit, if_pos c]
              · rw [k57, upd_lit, if_pos c]; exact t5 i hi
            · rcases sor b hsb with q | q
              · obtain ⟨y0, t', a', y1, y2, y3, y4, y5⟩ := g3 b q
                refine ⟨y0, t', a', y1, y2, ?_, ?_, fun i hi => ?_⟩
                · show (if b = b0 then f o else f' b) = _
                  rw [if_neg c]; exact y3
                · rw [k56, upd_lit, if_neg c]; exact y4
                · rw [k57, upd_lit, if_neg c]; exact y5 i hi
              · exact absurd q c
          · rw [k55, g4 a2 ha2 t2' ht2]
            dsimp only
            constructor
            · rintro (q | ⟨-, q⟩ | ⟨b, q1, q2⟩)
              · exact Or.inl q
              · exact Or.inr (Or.inr ⟨b0, by simp, by rw [if_pos rfl]; exact q.symm⟩)
              · by_cases c : b = b0
                · rw [c] at q1 q2
                  exact Or.inr (Or.inl ⟨q1, by rw [← q2]; exact fb0⟩)
                · exact Or.inr (Or.inr ⟨b, by simp [q1], by rw [if_neg c]; exact q2⟩)
            · rintro (q | ⟨q1, q2⟩ | ⟨b, q1, q2⟩)
              · exact Or.inl q
              · exact Or.inr (Or.inr ⟨b0, q1, by rw [q2]; exact fb0⟩)
              · by_cases c : b = b0
                · rw [if_pos c] at q2
                  exact Or.inr (Or.inl ⟨hso, q2.symm⟩)
                · rw [if_neg c] at q2
                  rcases sor b q1 with z | z
                  · exact Or.inr (Or.inr ⟨b, z, q2⟩)
                  · exact absurd z c
          · show q_F E T b (if b = b0 then f o else f' b)
            by_cases c : b = b0
            · rw [if_pos c, c]; exact hEo
            · rw [if_neg c]
              rcases sor b hb with z | z
              · exact r4.1 b z
              · exact absurd z c
          · have e' : (if b = b0 then f o else f' b) = (if c = b0 then f o else f' c) := e
            by_cases z1 : b = b0
            · by_cases z2 : c = b0
              · rw [z1, z2]
              · rw [if_pos z1, if_neg z2] at e'
                rcases sor c hc with z | z
                · exact absurd e'.symm (sso c z)
                · exact absurd z z2
            · rcases sor b hb with z | z
              · by_cases z2 : c = b0
                · rw [if_neg z1, if_pos z2] at e'
                  exact absurd e' (sso b z)
                · rw [if_neg z1, if_neg z2] at e'
                  rcases sor c hc with y | y
                  · exact r4.2 b c z y e'
                  · exact absurd y z2
              · exact absurd z z1
          · show (if i = b0 then f o else f' i) = f i
            rw [if_neg hne]
            refine r5 i (by rw [paF, a1 i hi]; rfl) (fun e => ?_)
            have := a1 i hi
            rw [e, hab] at this
            exact absurd this (by decide)
          · show (if i = b0 then f o else f' i) ≠ f b0
            by_cases c : i = b0
            · rw [if_pos c]
              exact fun e => bne (hMt.2 b0 o hsb hso e.symm)
            · rw [if_neg c, ← fb0]
              exact fun e => c (r4.2 i b0 hi hsb e)
        · rw [r1, bd_s, if_pos rfl, lt_s2, nI_1]
          have up : ∀ i, ab s1 i = true → ab s3 i = true := fun i hi => r6 i (by rw [paF, hi]; rfl)
          refine ih m (o + 1) s3 h' (by omega) (by omega) r5 r2 r3 r4 (fun i hi => up i (a1 i hi)) (fun i hi => ?_) (fun i hi hni p hE => ?_) (fun j hj hsj hE => ?_)
          · rcases r7 i hi with q | q
            · rw [paF] at q
              have q' : ab s1 i = true ∨ i = o := by simpa using q
              rcases q' with z | z
              · exact a2 i z
              · exact Or.inr (by rw [z]; exact hso)
            · exact Or.inr q
          · by_cases c : i = o ∨ ab (s1 + 2 ^ o) i = false
            · refine r8 i ?_ p hE
              rcases c with c | c
              · exact Or.inl c
              · exact Or.inr ⟨hi, c⟩
            · have c1' : i ≠ o := fun e => c (Or.inl e)
              have c2' : ab s1 i = true := by
                cases q : ab s1 i with
                | true => rfl
                | false => exact absurd (Or.inr (by rw [paF, q, decide_eq_false c1']; rfl)) c
              obtain ⟨j, j1, j2, j3⟩ := a3 i c2' hni p hE
              exact ⟨j, up j j1, j2, j3⟩
          · by_cases c : j = o
            · rw [c]; exact r6 o (by rw [paF]; simp)
            · exact up j (a4 j (by omega) hsj hE)
theorem x_find10 {h0 : AH} {d n N : Nat} {E : Nat → Nat → Prop} {T S : Nat → Bool} {f : Nat → Nat} {b0 s dep : Nat} {rc : Nat → Int32 → Int32 → AH → Option (Int32 × AH)} {h : AH} (hO : q_Ox h0 d n N E T) (hMt : Mt (q_F E T) S f) (hb0 : b0 < N) (hF : q_Fx h0 h) (hM : q_CM h d n T S f (fun _ => False))
    (hK : (∀ p, q_F E T b0 p → ∃ j, S j = true ∧ f j = p) → q_FP h0 d n E T S f b0 s (f_X3_findPlace_77 49 rc fu (nI b0) (nI dep) 0 h)) : ∀ (r fuel a : Nat), a + r = n → r < fuel → (∀ a', a' < a → ∀ t, t < 12 → q_F E T b0 (72 * d + 6 * t + a') → ∃ j, S j = true ∧ f j = 72 * d + 6 * t + a') → q_FP h0 d n E T S f b0 s (f_X3_findPlace_10 49 rc fuel (nI b0) (nI dep) (nI a) h) := by
  obtain ⟨o1, ⟨o2, o2'⟩, ⟨o3, o3'⟩, o4, o5⟩ := hO
  intro r
  induction r with
  | zero =>
    intro fuel a ha hf hd
    obtain ⟨m, rfl⟩ : ∃ m, fuel = m + 1 := ⟨fuel - 1, by omega⟩
    rw [f_X3_findPlace_10, hF.2 8 (by decide), o3, if_pos (nI_le (by omega) (by omega))]
    refine hK (fun p hE => ?_)
    obtain ⟨-, t, a', t1, t2, rfl⟩ := o4 _ _ hE.1
    exact hd a' (by omega) t t1 hE
  | succ r ih =>
    intro fuel a ha hf hd
    obtain ⟨m, rfl⟩ : ∃ m, fuel = m + 1 := ⟨fuel - 1, by omega⟩
    have ha6 : a < 6 := by omega
    have han : a < n := by omega
    obtain ⟨x, x1, x2⟩ := o1 h hF b0 a (by omega) ha6
    have x3 := x2 hb0 han
    obtain ⟨c1, c2, c3, c4⟩ := hM
    rw [f_X3_findPlace_10, hF.2 8 (by decide), o3, if_neg (nI_ge (by omega) (by omega)), x1, bd_s, ck_nI _ ha6 (by decide), cl_nI (by omega), lt_s2, show h (49 + 6) a = h 55 a from rfl]
    by_cases hz : (x &&& (h 55 a ^^^ (-1))) = 0
    · rw [if_pos hz, lt_s2, nI_1]
      refine ih m (a + 1) (by omega) (by omega) (fun a' ha' t ht hE => ?_)
      by_cases c : a' = a
      · subst c
        have hx := (x3 t (by omega)).mpr ⟨ht, hE.1⟩
        have hw := bt_z.mp hz t (by omega)
        rw [bt_and, hx, bt_not _ (by omega), Bool.true_and] at hw
        have hw2 : bt (h 55 a') t = true := by simpa using hw
        rcases (c4 a' han t ht).mp hw2 with q | q | q
        · rw [hE.2] at q; exact absurd q (by decide)
        · exact absurd q id
        · exact q
      · exact hd a' (by omega) t ht hE
    · rw [if_neg hz, lt_s2, ck_nI _ ha6 (by decide), ck_nI _ ha6 (by decide), lt_s2]
      obtain ⟨t, t1, t2, t3⟩ := bt_low hz
      generalize hy : (x &&& (h 55 a ^^^ (-1))) &&& (-(x &&& (h 55 a ^^^ (-1)))) = y at t3 ⊢
      rw [bt_and, bt_not _ t1] at t2
      have t2' : bt x t = true ∧ bt (h 55 a) t = false := by simpa using t2
      obtain ⟨t12, tE⟩ := (x3 t t1).mp t2'.1
      have hfree : T (72 * d + 6 * t + a) = false ∧ ∀ b, S b = true → f b ≠ 72 * d + 6 * t + a := by
        have hn : ¬ (bt (h 55 a) t = true) := by rw [t2'.2]; decide
        rw [c4 a han t t12] at hn
        constructor
        · cases q : T (72 * d + 6 * t + a) with
          | false => rfl
          | true => exact absurd (Or.inl q) hn
        · exact fun b hb e => hn (Or.inr (Or.inr ⟨b, hb, e⟩))
      have hEb : q_F E T b0 (72 * d + 6 * t + a) := ⟨tE, hfree.1⟩
      have hfr := hfree.2
      rw [x_givePlace (by omega), bd_s]
      have k55 : hset (hset (hset h (49 + 6) a (h 55 a ||| y)) 56 b0 (nI a)) 57 b0 y 55 = upd (h 55) a (h 55 a ||| y) := by rw [hs_cell _ _ _ _ _ (by decide), hs_cell _ _ _ _ _ (by decide)]; exact hs_row _ _ _ _
      have k56 : hset (hset (hset h (49 + 6) a (h 55 a ||| y)) 56 b0 (nI a)) 57 b0 y 56 = upd (h 56) b0 (nI a) := by rw [hs_cell _ _ _ _ _ (by decide), hs_row, hs_cell _ _ _ _ _ (by decide)]
      have k57 : hset (hset (hset h (49 + 6) a (h 55 a ||| y)) 56 b0 (nI a)) 57 b0 y 57 = upd (h 57) b0 y := by rw [hs_row, hs_cell _ _ _ _ _ (by decide), hs_cell _ _ _ _ _ (by decide)]
      have ko : ∀ c, c ≠ 55 → c ≠ 56 → c ≠ 57 → hset (hset (hset h (49 + 6) a (h 55 a ||| y)) 56 b0 (nI a)) 57 b0 y c = h c := fun c n0 n1 n2 => by rw [hs_cell _ _ _ _ _ n2, hs_cell _ _ _ _ _ n1, hs_cell _ _ _ _ _ n0]
      generalize hset (hset (hset h (49 + 6) a (h 55 a ||| y)) 56 b0 (nI a)) 57 b0 y = g at k55 k56 k57 ko ⊢
      have sor : ∀ i, (S i || decide (i = b0)) = true → S i = true ∨ i = b0 := fun i hi => by simpa using hi
      generalize hp : 72 * d + 6 * t + a = p at hEb hfr tE
      refine Or.inl ⟨g, fun i => if i = b0 then p else f i, rfl, ⟨fun c n1 n2 n3 n4 => by rw [ko c n2 n3 n4]; exact hF.1 c n1 n2 n3 n4, fun k hk => by rw [ko 49 (by decide) (by decide) (by decide)]; exact hF.2 k hk⟩, ⟨fun z hz' => ?_, fun b hb hsb => ?_, fun b hsb => ?_, fun a' ha' t' ht' => ?_⟩, ⟨fun b hb => ?_, fun b c hb hc e => ?_⟩, fun i _ hne => if_neg hne, fun hsb i hi => ?_⟩
      · rw [k56, upd_lit]
        split
        · exact ⟨a, ha6, rfl⟩
        · exact c1 z hz'
      · have hq : S b = false ∧ b ≠ b0 := by simpa using hsb
        rw [k57, upd_lit, if_neg hq.2]
        exact c2 b hb hq.1
      · by_cases c : b = b0
        · refine ⟨by omega, t, a, t12, han, ?_, ?_, fun i hi => ?_⟩
          · show (if b = b0 then p else f b) = _
            rw [if_pos c]; exact hp.symm
          · rw [k56, upd_lit, if_pos c]
          · rw [k57, upd_lit, if_pos c]; exact t3 i hi
        · rcases sor b hsb with q | q
          · obtain ⟨y0, t', a', y1, y2, y3, y4, y5⟩ := c3 b q
            refine ⟨y0, t', a', y1, y2, ?_, ?_, fun i hi => ?_⟩
            · show (if b = b0 then p else f b) = _
              rw [if_neg c]; exact y3
            · rw [k56, upd_lit, if_neg c]; exact y4
            · rw [k57, upd_lit, if_neg c]; exact y5 i hi
          · exact absurd q c
      · have hold := c4 a' ha' t' ht'
        have hnew : bt (g 55 a') t' = true ↔ bt (h 55 a') t' = true ∨ 72 * d + 6 * t' + a' = p := by
          rw [k55, upd_lit]
          by_cases c : a' = a
          · rw [if_pos c, bt_or, t3 t' (by omega), c]
            by_cases c' : t' = t
            · rw [decide_eq_true c', Bool.or_true]
              exact ⟨fun _ => Or.inr (by rw [c']; exact hp), fun _ => rfl⟩
            · rw [decide_eq_false c', Bool.or_false]
              exact ⟨Or.inl, fun q => q.elim id (fun z => absurd z (by omega))⟩
          · rw [if_neg c]
            exact ⟨Or.inl, fun q => q.elim id (fun z => absurd z (by omega))⟩
        rw [hnew, hold]
        dsimp only
        constructor
        · rintro ((q | q | ⟨b, q1, q2⟩) | q)
          · exact Or.inl q
          · exact absurd q id
          · by_cases c : b = b0
            · rw [c] at q1 q2
              exact Or.inr (Or.inl ⟨q1, q2.symm⟩)
            · exact Or.inr (Or.inr ⟨b, by simp [q1], by rw [if_neg c]; exact q2⟩)
          · exact Or.inr (Or.inr ⟨b0, by simp, by rw [if_pos rfl]; exact q.symm⟩)
        · rintro (q | ⟨q1, q2⟩ | ⟨b, q1, q2⟩)
          · exact Or.inl (Or.inl q)
          · exact Or.inl (Or.inr (Or.inr ⟨b0, q1, q2.symm⟩))
          · by_cases c : b = b0
            · rw [if_pos c] at q2
              exact Or.inr q2.symm
            · rw [if_neg c] at q2
              rcases sor b q1 with z | z
              · exact Or.inl (Or.inr (Or.inr ⟨b, z, q2⟩))
              · exact absurd z c
      · show q_F E T b (if b = b0 then p else f b)
        by_cases c : b = b0
        · rw [if_pos c, c]; exact hEb
        · rw [if_neg c]
          rcases sor b hb with z | z
          · exact hMt.1 b z
          · exact absurd z c
      · have e' : (if b = b0 then p else f b) = (if c = b0 then p else f c) := e
        by_cases z1 : b = b0
        · by_cases z2 : c = b0
          · rw [z1, z2]
          · rw [if_pos z1, if_neg z2] at e'
            rcases sor c hc with z | z
            · exact absurd e'.symm (hfr c z)
            · exact absurd z z2
        · rcases sor b hb with z | z
          · by_cases z2 : c = b0
            · rw [if_neg z1, if_pos z2] at e'
              exact absurd e' (hfr b z)
            · rw [if_neg z1, if_neg z2] at e'
              rcases sor c hc with y | y
              · exact hMt.2 b c z y e'
              · exact absurd y z2
          · exact absurd z z1
      · show (if i = b0 then p else f i) ≠ f b0
        by_cases c : i = b0
        · rw [if_pos c]; exact fun e => hfr b0 hsb e.symm
        · rw [if_neg c]; exact fun e => c (hMt.2 i b0 hi hsb e)
theorem x_find {h0 : AH} {d n N : Nat} {E : Nat → Nat → Prop} {T : Nat → Bool} (hO : q_Ox h0 d n N E T) : ∀ (n0 : Nat) (s dep b0 : Nat) (S : Nat → Bool) (f : Nat → Nat) (h : AH), 7 ≤ n0 + cnt (ab s) 6 → dep + 1 ≤ cnt (ab s) 6 → s < 64 → b0 < N → ab s b0 = true → Mt (q_F E T) S f → q_Fx h0 h → q_CM h d n T S f (fun _ => False) → h 49 10 = nI s → q_FP h0 d n E T S f b0 s (f_X3_findPlace n0 49 (nI b0) (nI dep) h) := by
  intro n0
  induction n0 with
  | zero =>
    intro s dep b0 S f h h7 hd
    have := cnt_le (ab s) 6
    omega
  | succ n0 ih =>
    intro s dep b0 S f h h7 hd hs hb hsb hMt hF hM h10
    have h6 := cnt_le (ab s) 6
    have on := hO.2.1
    rw [f_X3_findPlace, f_X3_findPlace_b, if_pos (show nI dep ≤ 6 from nI_le (b := 6) (by omega) (by decide)), show (0 : Int32) = nI 0 from rfl]
    refine x_find10 hO hMt hb hF hM (fun hcl => ?_) n fu 0 (by omega) (fu_ge _ (by omega)) (fun a' ha' => absurd ha' (Nat.not_lt_zero a'))
    rw [show (0 : Int32) = nI 0 from rfl]
    refine x_find77 hO hMt hb hsb (fun s2 o g g1 g2 g3 g4 g5 g6 g7 => ?_) hcl N fu 0 s h (by omega) (fu_ge _ (by omega)) hs hF hM h10 (fun _ hi => hi) (fun _ hi => Or.inl hi) (fun i hi hni => by rw [hi] at hni; exact absurd hni (by decide)) (fun j hj => absurd hj (Nat.not_lt_zero j))
    rw [nI_1]
    exact ih s2 (dep + 1) o S f g (by omega) (by omega) g1 g2 g3 hMt g5 g6 g7
theorem ab_c1 : ∀ b, b < 6 → cnt (ab (2 ^ b)) 6 = 1 := by decide +kernel
theorem x_placed27 {h0 : AH} {d n N : Nat} {E : Nat → Nat → Prop} {T : Nat → Bool} (hO : q_Ox h0 d n N E T) {lo : Nat} : ∀ (r fuel b : Nat) (h : AH) (S : Nat → Bool) (f : Nat → Nat) (Z : Nat → Bool), b + r = N → r < fuel → lo ≤ b → q_Fx h0 h → q_CM h d n T S f (fun _ => False) → Iv (q_F E T) lo b S f Z → ∃ c h', f_X3_placedFrom_27 49 fuel (nI (cnt S 6)) (nI b) h = some (nI c, h') ∧ q_Fx h0 h' ∧ RQ (h' 56) ∧ Gr (q_F E T) lo N c := by
  obtain ⟨o1, ⟨o2, o2'⟩, ⟨o3, o3'⟩, o4, o5⟩ := id hO
  intro r
  induction r with
  | zero =>
    intro fuel b h S f Z hb hf hl hF hM hI
    obtain ⟨m, rfl⟩ : ∃ m, fuel = m + 1 := ⟨fuel - 1, by omega⟩
    rw [f_X3_placedFrom_27, hF.2 9 (by decide), o3', if_pos (nI_le (by omega) (by omega))]
    refine ⟨_, h, rfl, hF, hM.1, ?_⟩
    have hb2 : b = N := by omega
    subst hb2
    exact Iv_G o2' hI
  | succ r ih =>
    intro fuel b h S f Z hb hf hl hF hM hI
    obtain ⟨m, rfl⟩ : ∃ m, fuel = m + 1 := ⟨fuel - 1, by omega⟩
    have hb6 : b < 6 := by omega
    have hsb : S b = false := by
      cases hs : S b with
      | false => rfl
      | true => have := (hI.1 b hs).2; omega
    rw [f_X3_placedFrom_27, hF.2 9 (by decide), o3', if_neg (nI_ge (by omega) (by omega)), lt_s2, ab_new b hb6, show (0 : Int32) = nI 0 from rfl]
    have hF2 : q_Fx h0 (hset h 49 10 (nI (2 ^ b))) := ⟨fun c n1 n2 n3 n4 => by rw [hs_cell _ _ _ _ _ n1]; exact hF.1 c n1 n2 n3 n4, fun k hk => by rw [hs_place _ _ _ _ _ hk]; exact hF.2 k hk⟩
    have hM2 : q_CM (hset h 49 10 (nI (2 ^ b))) d n T S f (fun _ => False) := q_CM_c (hs_cell _ _ _ _ _ (by decide)) (hs_cell _ _ _ _ _ (by decide)) (hs_cell _ _ _ _ _ (by decide)) hM
    have c1 := ab_c1 b hb6
    have abF : ∀ i, ab (2 ^ b) i = true → i = b := fun i hi => by
      by_cases c : i < 6
      · rw [ab_pow b hb6 i c] at hi; exact of_decide_eq_true hi
      · rw [ab_hi (ab_p64 b hb6) (by omega)] at hi; exact absurd hi (by decide)
    have abb : ab (2 ^ b) b = true := by rw [ab_pow b hb6 b hb6]; simp
    rcases x_find hO 10 (2 ^ b) 0 b S f _ (by omega) (by omega) (ab_p64 b hb6) (by omega) abb hI.2.1 hF2 hM2 (hs_self _ _ _ _) with ⟨h', f', r1, r2, r3, r4, r5, r6⟩ | ⟨h', s3, r1, r2, r3, r4, r5, r6, r7, r8⟩
    · rw [r1, bd_s, if_neg (show ¬ (1 : Int32) = nI 0 from n10), lt_s2, lt_s2, nI_1, nI_1]
      have ec : cnt (fun i => S i || decide (i = b)) 6 = cnt S 6 + 1 := cnt_add hb6 hsb (fun i _ => rfl)
      rw [← ec]
      refine ih m (b + 1) h' _ f' Z (by omega) (by omega) (by omega) r2 (q_CM_X (fun p => ⟨fun q => ?_, fun q => absurd q id⟩) r3) (Iv_y hb6 hl hI (fun _ => rfl) r4)
      rw [hsb] at q
      exact absurd q.1 (by decide)
    · rw [r1, bd_s, if_pos (show (0 : Int32) = nI 0 from rfl), lt_s2, lt_s2, nI_add, nI_1, Nat.add_zero]
      refine ih m (b + 1) h' S f _ (by omega) (by omega) (by omega) r2 r3 (Iv_n hl hI (W := ab s3) (r6 b abb) (fun i hi => ?_) (fun i p hi hE => ?_))
      · rcases r7 i hi with q | q
        · exact Or.inl (abF i q)
        · exact Or.inr q
      · refine r8 i ?_ p hE
        cases q : ab (2 ^ b) i with
        | true => exact Or.inl (abF i q)
        | false => exact Or.inr ⟨hi, rfl⟩
theorem x_placedFrom {h : AH} {d n N : Nat} {E : Nat → Nat → Prop} {T : Nat → Bool} (hO : q_Ox h d n N E T) (hQ : RQ (h 56)) {lo : Nat} (hl : lo ≤ N) : ∃ c h', f_X3_placedFrom 49 (nI lo) h = some (nI c, h') ∧ q_Fx h h' ∧ RQ (h' 56) ∧ Gr (q_F E T) lo N c := by
  obtain ⟨o1, ⟨o2, o2'⟩, ⟨o3, o3'⟩, o4, o5⟩ := id hO
  unfold f_X3_placedFrom
  rw [show (0 : Int32) = nI 0 from rfl, show (6 : Int32) = nI 6 from rfl, bl_cpy _ _ _ _ _ _ _ _ (by decide) (by decide) (by decide) (by decide), bh_s, x_fill _ _ _ (by decide), bd_s]
  have k57 : ∀ j, j < 6 → hput (hput h (49 + 6) (va_cpy (h (49 + 5)) (h (49 + 6)) 0 0 6)) (49 + 8) (fun j => if j < 6 then nI 0 else hput h (49 + 6) (va_cpy (h (49 + 5)) (h (49 + 6)) 0 0 6) (49 + 8) j) 57 j = 0 := fun j hj => by
    rw [show (57 : Nat) = 49 + 8 from rfl, hput_self, if_pos hj]; rfl
  have k55 : ∀ j, j < 6 → hput (hput h (49 + 6) (va_cpy (h (49 + 5)) (h (49 + 6)) 0 0 6)) (49 + 8) (fun j => if j < 6 then nI 0 else hput h (49 + 6) (va_cpy (h (49 + 5)) (h (49 + 6)) 0 0 6) (49 + 8) j) 55 j = h 54 j := fun j hj => by
    rw [hput_ne _ _ (by decide), show (55 : Nat) = 49 + 6 from rfl, hput_self, pk_cpy_in (by omega) (by omega), Nat.zero_add, Nat.sub_zero]
  have ko : ∀ c, c ≠ 55 → c ≠ 57 → hput (hput h (49 + 6) (va_cpy (h (49 + 5)) (h (49 + 6)) 0 0 6)) (49 + 8) (fun j => if j < 6 then nI 0 else hput h (49 + 6) (va_cpy (h (49 + 5)) (h (49 + 6)) 0 0 6) (49 + 8) j) c = h c := fun c n1 n2 => by
    rw [hput_ne _ _ n2, hput_ne _ _ n1]
  generalize hput (hput h (49 + 6) (va_cpy (h (49 + 5)) (h (49 + 6)) 0 0 6)) (49 + 8) (fun j => if j < 6 then nI 0 else hput h (49 + 6) (va_cpy (h (49 + 5)) (h (49 + 6)) 0 0 6) (49 + 8) j) = g at k57 k55 ko ⊢
  exact x_placed27 hO (N - lo) fu lo g (fun _ => false) (fun _ => 0) (fun _ => false) (by omega) (fu_ge _ (by omega)) (Nat.le_refl _) ⟨fun c n1 n2 n3 n4 => ko c n2 n4, fun k hk => by rw [ko 49 (by decide) (by decide)]⟩ ⟨by rw [ko 56 (by decide) (by decide)]; exact hQ, fun b hb _ => k57 b hb, fun b hb => Bool.noConfusion hb, fun a ha t ht => by
    rw [k55 a (by omega), o5 a ha t ht]
    exact ⟨Or.inl, fun q => q.elim id (fun z => z.elim (fun y => absurd y id) (fun ⟨b, y, _⟩ => Bool.noConfusion y))⟩⟩ (Iv_0 _ _ _)
