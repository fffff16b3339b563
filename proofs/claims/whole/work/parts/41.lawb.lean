set_option maxRecDepth 20000 in
set_option maxHeartbeats 4000000 in
theorem lc_row {z : MC} {gx gm : GC} {A : Nat → Prop} {b L : Nat} {xs : Nat → Int32} {Qs : State → Prop} (F : FL z gx gm A b L xs) (hox : (gL gx)[0]? = some (.inl 7)) (hom : (gL gm)[0]? = some (.inl 8)) {Rel : AH → AH → Prop} (hB : Both Rel) {x3 : Int32} (hi1 : vp_in (x3 + 1) L) (hi2 : vp_in (x3 + 2) L) (hi3 : vp_in (x3 + 3) L) (hi4 : vp_in (x3 + 4) L) (hi5 : vp_in (x3 + 5) L) (hnext : ∀ hx hm, Rel hx hm → Lw z gx gm A Qs 1034 [(0, .ref b), (1, .ref (gad gx 0)), (2, .ref (gad gm 0)), (3, .int x3)] [] hx hm) {hx hm : AH} (hR : Rel hx hm) : Lw z gx gm A Qs 160 [(0, .ref b), (1, .ref (gad gx 0)), (2, .ref (gad gm 0)), (3, .int x3)] [] hx hm := by
  obtain ⟨r, hx1, hm1, e1, e2, hR1⟩ := (hB.1) (xs (x3 + 1).toNatClampNeg) (xs (x3 + 2).toNatClampNeg) (xs (x3 + 3).toNatClampNeg) hx hm hR
  refine l_aload_n F dL_law_160 rfl 1 rfl ?_
  refine l_aload_n F dL_law_161 rfl 0 rfl ?_
  refine l_iload_n F dL_law_162 rfl 3 rfl ?_
  refine l_iconst F (v := 1) dL_law_163 (by decide) ?_
  refine l_iadd F dL_law_164 ?_
  refine l_sld F hi1 dL_law_165 ?_
  refine l_aload_n F dL_law_166 rfl 0 rfl ?_
  refine l_iload_n F dL_law_167 rfl 3 rfl ?_
  refine l_iconst F (v := 2) dL_law_168 (by decide) ?_
  refine l_iadd F dL_law_169 ?_
  refine l_sld F hi2 dL_law_170 ?_
  refine l_aload_n F dL_law_171 rfl 0 rfl ?_
  refine l_iload_n F dL_law_172 rfl 3 rfl ?_
  refine l_iconst F (v := 3) dL_law_173 (by decide) ?_
  refine l_iadd F dL_law_174 ?_
  refine l_sld F hi3 dL_law_175 ?_
  refine l_callX (f := fun h => f_X7_row 0 (xs (x3 + 1).toNatClampNeg) (xs (x3 + 2).toNatClampNeg) (xs (x3 + 3).toNatClampNeg) h) (As := [.int (xs (x3 + 1).toNatClampNeg), .int (xs (x3 + 2).toNatClampNeg), .int (xs (x3 + 3).toNatClampNeg)]) F yv_X7_row (ct_X7_row z.2.1 gx hox (xs (x3 + 1).toNatClampNeg) (xs (x3 + 2).toNatClampNeg) (xs (x3 + 3).toNatClampNeg)) (by decide) m273 hox rfl rfl rfl (Nat.le_of_ble_eq_true rfl) dL_law_176 e1 ?_
  refine l_aload_n F dL_law_179 rfl 2 rfl ?_
  refine l_aload_n F dL_law_180 rfl 0 rfl ?_
  refine l_iload_n F dL_law_181 rfl 3 rfl ?_
  refine l_iconst F (v := 1) dL_law_182 (by decide) ?_
  refine l_iadd F dL_law_183 ?_
  refine l_sld F hi1 dL_law_184 ?_
  refine l_aload_n F dL_law_185 rfl 0 rfl ?_
  refine l_iload_n F dL_law_186 rfl 3 rfl ?_
  refine l_iconst F (v := 2) dL_law_187 (by decide) ?_
  refine l_iadd F dL_law_188 ?_
  refine l_sld F hi2 dL_law_189 ?_
  refine l_aload_n F dL_law_190 rfl 0 rfl ?_
  refine l_iload_n F dL_law_191 rfl 3 rfl ?_
  refine l_iconst F (v := 3) dL_law_192 (by decide) ?_
  refine l_iadd F dL_law_193 ?_
  refine l_sld F hi3 dL_law_194 ?_
  refine l_callM (f := fun h => f_X8_row 0 (xs (x3 + 1).toNatClampNeg) (xs (x3 + 2).toNatClampNeg) (xs (x3 + 3).toNatClampNeg) h) (As := [.int (xs (x3 + 1).toNatClampNeg), .int (xs (x3 + 2).toNatClampNeg), .int (xs (x3 + 3).toNatClampNeg)]) F yv_X8_row (ct_X8_row z.2.1 gm hom (xs (x3 + 1).toNatClampNeg) (xs (x3 + 2).toNatClampNeg) (xs (x3 + 3).toNatClampNeg)) (by decide) m997 hom rfl rfl rfl (Nat.le_of_ble_eq_true rfl) dL_law_195 e2 ?_
  refine l_same F 1034 dL_law_198 (by decide) ?_
  exact hnext hx1 hm1 hR1
set_option maxRecDepth 20000 in
set_option maxHeartbeats 4000000 in
theorem lc_set {z : MC} {gx gm : GC} {A : Nat → Prop} {b L : Nat} {xs : Nat → Int32} {Qs : State → Prop} (F : FL z gx gm A b L xs) (hox : (gL gx)[0]? = some (.inl 7)) (hom : (gL gm)[0]? = some (.inl 8)) {Rel : AH → AH → Prop} (hB : Both Rel) {x3 : Int32} (hi1 : vp_in (x3 + 1) L) (hi2 : vp_in (x3 + 2) L) (hi3 : vp_in (x3 + 3) L) (hi4 : vp_in (x3 + 4) L) (hi5 : vp_in (x3 + 5) L) (hnext : ∀ hx hm, Rel hx hm → Lw z gx gm A Qs 1034 [(0, .ref b), (1, .ref (gad gx 0)), (2, .ref (gad gm 0)), (3, .int x3)] [] hx hm) {hx hm : AH} (hR : Rel hx hm) : Lw z gx gm A Qs 203 [(0, .ref b), (1, .ref (gad gx 0)), (2, .ref (gad gm 0)), (3, .int x3)] [] hx hm := by
  obtain ⟨r, hx1, hm1, e1, e2, hR1⟩ := (hB.2.1) (xs (x3 + 1).toNatClampNeg) (xs (x3 + 2).toNatClampNeg) (xs (x3 + 3).toNatClampNeg) hx hm hR
  refine l_aload_n F dL_law_203 rfl 1 rfl ?_
  refine l_aload_n F dL_law_204 rfl 0 rfl ?_
  refine l_iload_n F dL_law_205 rfl 3 rfl ?_
  refine l_iconst F (v := 1) dL_law_206 (by decide) ?_
  refine l_iadd F dL_law_207 ?_
  refine l_sld F hi1 dL_law_208 ?_
  refine l_aload_n F dL_law_209 rfl 0 rfl ?_
  refine l_iload_n F dL_law_210 rfl 3 rfl ?_
  refine l_iconst F (v := 2) dL_law_211 (by decide) ?_
  refine l_iadd F dL_law_212 ?_
  refine l_sld F hi2 dL_law_213 ?_
  refine l_aload_n F dL_law_214 rfl 0 rfl ?_
  refine l_iload_n F dL_law_215 rfl 3 rfl ?_
  refine l_iconst F (v := 3) dL_law_216 (by decide) ?_
  refine l_iadd F dL_law_217 ?_
  refine l_sld F hi3 dL_law_218 ?_
  refine l_callX (f := fun h => f_X7_set 0 (xs (x3 + 1).toNatClampNeg) (xs (x3 + 2).toNatClampNeg) (xs (x3 + 3).toNatClampNeg) h) (As := [.int (xs (x3 + 1).toNatClampNeg), .int (xs (x3 + 2).toNatClampNeg), .int (xs (x3 + 3).toNatClampNeg)]) F yv_X7_set (ct_X7_set z.2.1 gx hox (xs (x3 + 1).toNatClampNeg) (xs (x3 + 2).toNatClampNeg) (xs (x3 + 3).toNatClampNeg)) (by decide) m294 hox rfl rfl rfl (Nat.le_of_ble_eq_true rfl) dL_law_219 e1 ?_
  refine l_aload_n F dL_law_222 rfl 2 rfl ?_
  refine l_aload_n F dL_law_223 rfl 0 rfl ?_
  refine l_iload_n F dL_law_224 rfl 3 rfl ?_
  refine l_iconst F (v := 1) dL_law_225 (by decide) ?_
  refine l_iadd F dL_law_226 ?_
  refine l_sld F hi1 dL_law_227 ?_
  refine l_aload_n F dL_law_228 rfl 0 rfl ?_
  refine l_iload_n F dL_law_229 rfl 3 rfl ?_
  refine l_iconst F (v := 2) dL_law_230 (by decide) ?_
  refine l_iadd F dL_law_231 ?_
  refine l_sld F hi2 dL_law_232 ?_
  refine l_aload_n F dL_law_233 rfl 0 rfl ?_
  refine l_iload_n F dL_law_234 rfl 3 rfl ?_
  refine l_iconst F (v := 3) dL_law_235 (by decide) ?_
  refine l_iadd F dL_law_236 ?_
  refine l_sld F hi3 dL_law_237 ?_
  refine l_callM (f := fun h => f_X8_set 0 (xs (x3 + 1).toNatClampNeg) (xs (x3 + 2).toNatClampNeg) (xs (x3 + 3).toNatClampNeg) h) (As := [.int (xs (x3 + 1).toNatClampNeg), .int (xs (x3 + 2).toNatClampNeg), .int (xs (x3 + 3).toNatClampNeg)]) F yv_X8_set (ct_X8_set z.2.1 gm hom (xs (x3 + 1).toNatClampNeg) (xs (x3 + 2).toNatClampNeg) (xs (x3 + 3).toNatClampNeg)) (by decide) m1015 hom rfl rfl rfl (Nat.le_of_ble_eq_true rfl) dL_law_238 e2 ?_
  refine l_same F 1034 dL_law_241 (by decide) ?_
  exact hnext hx1 hm1 hR1
set_option maxRecDepth 20000 in
set_option maxHeartbeats 4000000 in
theorem lc_copy {z : MC} {gx gm : GC} {A : Nat → Prop} {b L : Nat} {xs : Nat → Int32} {Qs : State → Prop} (F : FL z gx gm A b L xs) (hox : (gL gx)[0]? = some (.inl 7)) (hom : (gL gm)[0]? = some (.inl 8)) {Rel : AH → AH → Prop} (hB : Both Rel) {x3 : Int32} (hi1 : vp_in (x3 + 1) L) (hi2 : vp_in (x3 + 2) L) (hi3 : vp_in (x3 + 3) L) (hi4 : vp_in (x3 + 4) L) (hi5 : vp_in (x3 + 5) L) (hnext : ∀ hx hm, Rel hx hm → Lw z gx gm A Qs 1034 [(0, .ref b), (1, .ref (gad gx 0)), (2, .ref (gad gm 0)), (3, .int x3)] [] hx hm) {hx hm : AH} (hR : Rel hx hm) : Lw z gx gm A Qs 246 [(0, .ref b), (1, .ref (gad gx 0)), (2, .ref (gad gm 0)), (3, .int x3)] [] hx hm := by
  obtain ⟨r, hx1, hm1, e1, e2, hR1⟩ := (hB.2.2.1) (xs (x3 + 1).toNatClampNeg) (xs (x3 + 2).toNatClampNeg) (xs (x3 + 3).toNatClampNeg) (xs (x3 + 4).toNatClampNeg) (xs (x3 + 5).toNatClampNeg) hx hm hR
  refine l_aload_n F dL_law_246 rfl 1 rfl ?_
  refine l_aload_n F dL_law_247 rfl 0 rfl ?_
  refine l_iload_n F dL_law_248 rfl 3 rfl ?_
  refine l_iconst F (v := 1) dL_law_249 (by decide) ?_
  refine l_iadd F dL_law_250 ?_
  refine l_sld F hi1 dL_law_251 ?_
  refine l_aload_n F dL_law_252 rfl 0 rfl ?_
  refine l_iload_n F dL_law_253 rfl 3 rfl ?_
  refine l_iconst F (v := 2) dL_law_254 (by decide) ?_
  refine l_iadd F dL_law_255 ?_
  refine l_sld F hi2 dL_law_256 ?_
  refine l_aload_n F dL_law_257 rfl 0 rfl ?_
  refine l_iload_n F dL_law_258 rfl 3 rfl ?_
  refine l_iconst F (v := 3) dL_law_259 (by decide) ?_
  refine l_iadd F dL_law_260 ?_
  refine l_sld F hi3 dL_law_261 ?_
  refine l_aload_n F dL_law_262 rfl 0 rfl ?_
  refine l_iload_n F dL_law_263 rfl 3 rfl ?_
  refine l_iconst F (v := 4) dL_law_264 (by decide) ?_
  refine l_iadd F dL_law_265 ?_
  refine l_sld F hi4 dL_law_266 ?_
  refine l_aload_n F dL_law_267 rfl 0 rfl ?_
  refine l_iload_n F dL_law_268 rfl 3 rfl ?_
  refine l_iconst F (v := 5) dL_law_269 (by decide) ?_
  refine l_iadd F dL_law_270 ?_
  refine l_sld F hi5 dL_law_271 ?_
  refine l_callX (f := fun h => f_X7_copy 0 (xs (x3 + 1).toNatClampNeg) (xs (x3 + 2).toNatClampNeg) (xs (x3 + 3).toNatClampNeg) (xs (x3 + 4).toNatClampNeg) (xs (x3 + 5).toNatClampNeg) h) (As := [.int (xs (x3 + 1).toNatClampNeg), .int (xs (x3 + 2).toNatClampNeg), .int (xs (x3 + 3).toNatClampNeg), .int (xs (x3 + 4).toNatClampNeg), .int (xs (x3 + 5).toNatClampNeg)]) F yv_X7_copy (ct_X7_copy z.2.1 gx hox (xs (x3 + 1).toNatClampNeg) (xs (x3 + 2).toNatClampNeg) (xs (x3 + 3).toNatClampNeg) (xs (x3 + 4).toNatClampNeg) (xs (x3 + 5).toNatClampNeg)) (by decide) m313 hox rfl rfl rfl (Nat.le_of_ble_eq_true rfl) dL_law_272 e1 ?_
  refine l_aload_n F dL_law_275 rfl 2 rfl ?_
  refine l_aload_n F dL_law_276 rfl 0 rfl ?_
  refine l_iload_n F dL_law_277 rfl 3 rfl ?_
  refine l_iconst F (v := 1) dL_law_278 (by decide) ?_
  refine l_iadd F dL_law_279 ?_
  refine l_sld F hi1 dL_law_280 ?_
  refine l_aload_n F dL_law_281 rfl 0 rfl ?_
  refine l_iload_n F dL_law_282 rfl 3 rfl ?_
  refine l_iconst F (v := 2) dL_law_283 (by decide) ?_
  refine l_iadd F dL_law_284 ?_
  refine l_sld F hi2 dL_law_285 ?_
  refine l_aload_n F dL_law_286 rfl 0 rfl ?_
  refine l_iload_n F dL_law_287 rfl 3 rfl ?_
  refine l_iconst F (v := 3) dL_law_288 (by decide) ?_
  refine l_iadd F dL_law_289 ?_
  refine l_sld F hi3 dL_law_290 ?_
  refine l_aload_n F dL_law_291 rfl 0 rfl ?_
  refine l_iload_n F dL_law_292 rfl 3 rfl ?_
  refine l_iconst F (v := 4) dL_law_293 (by decide) ?_
  refine l_iadd F dL_law_294 ?_
  refine l_sld F hi4 dL_law_295 ?_
  refine l_aload_n F dL_law_296 rfl 0 rfl ?_
  refine l_iload_n F dL_law_297 rfl 3 rfl ?_
  refine l_iconst F (v := 5) dL_law_298 (by decide) ?_
  refine l_iadd F dL_law_299 ?_
  refine l_sld F hi5 dL_law_300 ?_
  refine l_callM (f := fun h => f_X8_copy 0 (xs (x3 + 1).toNatClampNeg) (xs (x3 + 2).toNatClampNeg) (xs (x3 + 3).toNatClampNeg) (xs (x3 + 4).toNatClampNeg) (xs (x3 + 5).toNatClampNeg) h) (As := [.int (xs (x3 + 1).toNatClampNeg), .int (xs (x3 + 2).toNatClampNeg), .int (xs (x3 + 3).toNatClampNeg), .int (xs (x3 + 4).toNatClampNeg), .int (xs (x3 + 5).toNatClampNeg)]) F yv_X8_copy (ct_X8_copy z.2.1 gm hom (xs (x3 + 1).toNatClampNeg) (xs (x3 + 2).toNatClampNeg) (xs (x3 + 3).toNatClampNeg) (xs (x3 + 4).toNatClampNeg) (xs (x3 + 5).toNatClampNeg)) (by decide) m1019 hom rfl rfl rfl (Nat.le_of_ble_eq_true rfl) dL_law_301 e2 ?_
  refine l_same F 1034 dL_law_304 (by decide) ?_
  exact hnext hx1 hm1 hR1
set_option maxRecDepth 20000 in
set_option maxHeartbeats 4000000 in
theorem lc_drop {z : MC} {gx gm : GC} {A : Nat → Prop} {b L : Nat} {xs : Nat → Int32} {Qs : State → Prop} (F : FL z gx gm A b L xs) (hox : (gL gx)[0]? = some (.inl 7)) (hom : (gL gm)[0]? = some (.inl 8)) {Rel : AH → AH → Prop} (hB : Both Rel) {x3 : Int32} (hi1 : vp_in (x3 + 1) L) (hi2 : vp_in (x3 + 2) L) (hi3 : vp_in (x3 + 3) L) (hi4 : vp_in (x3 + 4) L) (hi5 : vp_in (x3 + 5) L) (hnext : ∀ hx hm, Rel hx hm → Lw z gx gm A Qs 1034 [(0, .ref b), (1, .ref (gad gx 0)), (2, .ref (gad gm 0)), (3, .int x3)] [] hx hm) {hx hm : AH} (hR : Rel hx hm) : Lw z gx gm A Qs 309 [(0, .ref b), (1, .ref (gad gx 0)), (2, .ref (gad gm 0)), (3, .int x3)] [] hx hm := by
  obtain ⟨r, hx1, hm1, e1, e2, hR1⟩ := (hB.2.2.2.1) (xs (x3 + 1).toNatClampNeg) hx hm hR
  refine l_aload_n F dL_law_309 rfl 1 rfl ?_
  refine l_aload_n F dL_law_310 rfl 0 rfl ?_
  refine l_iload_n F dL_law_311 rfl 3 rfl ?_
  refine l_iconst F (v := 1) dL_law_312 (by decide) ?_
  refine l_iadd F dL_law_313 ?_
  refine l_sld F hi1 dL_law_314 ?_
  refine l_callX (f := fun h => f_X7_drop 0 (xs (x3 + 1).toNatClampNeg) h) (As := [.int (xs (x3 + 1).toNatClampNeg)]) F yv_X7_drop (ct_X7_drop z.2.1 gx hox (xs (x3 + 1).toNatClampNeg)) (by decide) m328 hox rfl rfl rfl (Nat.le_of_ble_eq_true rfl) dL_law_315 e1 ?_
  refine l_aload_n F dL_law_318 rfl 2 rfl ?_
  refine l_aload_n F dL_law_319 rfl 0 rfl ?_
  refine l_iload_n F dL_law_320 rfl 3 rfl ?_
  refine l_iconst F (v := 1) dL_law_321 (by decide) ?_
  refine l_iadd F dL_law_322 ?_
  refine l_sld F hi1 dL_law_323 ?_
  refine l_callM (f := fun h => f_X8_drop 0 (xs (x3 + 1).toNatClampNeg) h) (As := [.int (xs (x3 + 1).toNatClampNeg)]) F yv_X8_drop (ct_X8_drop z.2.1 gm hom (xs (x3 + 1).toNatClampNeg)) (by decide) m1023 hom rfl rfl rfl (Nat.le_of_ble_eq_true rfl) dL_law_324 e2 ?_
  refine l_same F 1034 dL_law_327 (by decide) ?_
  exact hnext hx1 hm1 hR1
set_option maxRecDepth 20000 in
set_option maxHeartbeats 4000000 in
theorem lc_feed {z : MC} {gx gm : GC} {A : Nat → Prop} {b L : Nat} {xs : Nat → Int32} {Qs : State → Prop} (F : FL z gx gm A b L xs) (hox : (gL gx)[0]? = some (.inl 7)) (hom : (gL gm)[0]? = some (.inl 8)) {Rel : AH → AH → Prop} (hB : Both Rel) {x3 : Int32} (hi1 : vp_in (x3 + 1) L) (hi2 : vp_in (x3 + 2) L) (hi3 : vp_in (x3 + 3) L) (hi4 : vp_in (x3 + 4) L) (hi5 : vp_in (x3 + 5) L) (hnext : ∀ hx hm, Rel hx hm → Lw z gx gm A Qs 1034 [(0, .ref b), (1, .ref (gad gx 0)), (2, .ref (gad gm 0)), (3, .int x3)] [] hx hm) {hx hm : AH} (hR : Rel hx hm) : Lw z gx gm A Qs 332 [(0, .ref b), (1, .ref (gad gx 0)), (2, .ref (gad gm 0)), (3, .int x3)] [] hx hm := by
  obtain ⟨r, hx1, hm1, e1, e2, hR1⟩ := (hB.2.2.2.2.1) ((((xs (x3 + 1).toNatClampNeg).toInt64 <<< ((32 : Int32).toInt64 &&& 63)) ||| ((xs (x3 + 2).toNatClampNeg).toInt64 &&& 4294967295))) (xs (x3 + 3).toNatClampNeg) hx hm hR
  refine l_aload_n F dL_law_332 rfl 1 rfl ?_
  refine l_aload_n F dL_law_333 rfl 0 rfl ?_
  refine l_iload_n F dL_law_334 rfl 3 rfl ?_
  refine l_iconst F (v := 1) dL_law_335 (by decide) ?_
  refine l_iadd F dL_law_336 ?_
  refine l_sld F hi1 dL_law_337 ?_
  refine l_i2l F dL_law_338 ?_
  refine l_bipush F (v := 32) dL_law_339 (by decide) ?_
  refine l_lshl F dL_law_341 ?_
  refine l_aload_n F dL_law_342 rfl 0 rfl ?_
  refine l_iload_n F dL_law_343 rfl 3 rfl ?_
  refine l_iconst F (v := 2) dL_law_344 (by decide) ?_
  refine l_iadd F dL_law_345 ?_
  refine l_sld F hi2 dL_law_346 ?_
  refine l_i2l F dL_law_347 ?_
  refine l_ldc2 F (v := 4294967295) dL_law_348 m1336 ?_
  refine l_land F dL_law_351 ?_
  refine l_lor F dL_law_352 ?_
  refine l_aload_n F dL_law_353 rfl 0 rfl ?_
  refine l_iload_n F dL_law_354 rfl 3 rfl ?_
  refine l_iconst F (v := 3) dL_law_355 (by decide) ?_
  refine l_iadd F dL_law_356 ?_
  refine l_sld F hi3 dL_law_357 ?_
  refine l_callX (f := fun h => f_X7_feed 0 ((((xs (x3 + 1).toNatClampNeg).toInt64 <<< ((32 : Int32).toInt64 &&& 63)) ||| ((xs (x3 + 2).toNatClampNeg).toInt64 &&& 4294967295))) (xs (x3 + 3).toNatClampNeg) h) (As := [.long ((((xs (x3 + 1).toNatClampNeg).toInt64 <<< ((32 : Int32).toInt64 &&& 63)) ||| ((xs (x3 + 2).toNatClampNeg).toInt64 &&& 4294967295))), .int (xs (x3 + 3).toNatClampNeg)]) F yv_X7_feed (ct_X7_feed z.2.1 gx hox ((((xs (x3 + 1).toNatClampNeg).toInt64 <<< ((32 : Int32).toInt64 &&& 63)) ||| ((xs (x3 + 2).toNatClampNeg).toInt64 &&& 4294967295))) (xs (x3 + 3).toNatClampNeg)) (by decide) m336 hox rfl rfl rfl (Nat.le_of_ble_eq_true rfl) dL_law_358 e1 ?_
  refine l_aload_n F dL_law_361 rfl 2 rfl ?_
  refine l_aload_n F dL_law_362 rfl 0 rfl ?_
  refine l_iload_n F dL_law_363 rfl 3 rfl ?_
  refine l_iconst F (v := 1) dL_law_364 (by decide) ?_
  refine l_iadd F dL_law_365 ?_
  refine l_sld F hi1 dL_law_366 ?_
  refine l_i2l F dL_law_367 ?_
  refine l_bipush F (v := 32) dL_law_368 (by decide) ?_
  refine l_lshl F dL_law_370 ?_
  refine l_aload_n F dL_law_371 rfl 0 rfl ?_
  refine l_iload_n F dL_law_372 rfl 3 rfl ?_
  refine l_iconst F (v := 2) dL_law_373 (by decide) ?_
  refine l_iadd F dL_law_374 ?_
  refine l_sld F hi2 dL_law_375 ?_
  refine l_i2l F dL_law_376 ?_
  refine l_ldc2 F (v := 4294967295) dL_law_377 m1336 ?_
  refine l_land F dL_law_380 ?_
  refine l_lor F dL_law_381 ?_
  refine l_aload_n F dL_law_382 rfl 0 rfl ?_
  refine l_iload_n F dL_law_383 rfl 3 rfl ?_
  refine l_iconst F (v := 3) dL_law_384 (by decide) ?_
  refine l_iadd F dL_law_385 ?_
  refine l_sld F hi3 dL_law_386 ?_
  refine l_callM (f := fun h => f_X8_feed 0 ((((xs (x3 + 1).toNatClampNeg).toInt64 <<< ((32 : Int32).toInt64 &&& 63)) ||| ((xs (x3 + 2).toNatClampNeg).toInt64 &&& 4294967295))) (xs (x3 + 3).toNatClampNeg) h) (As := [.long ((((xs (x3 + 1).toNatClampNeg).toInt64 <<< ((32 : Int32).toInt64 &&& 63)) ||| ((xs (x3 + 2).toNatClampNeg).toInt64 &&& 4294967295))), .int (xs (x3 + 3).toNatClampNeg)]) F yv_X8_feed (ct_X8_feed z.2.1 gm hom ((((xs (x3 + 1).toNatClampNeg).toInt64 <<< ((32 : Int32).toInt64 &&& 63)) ||| ((xs (x3 + 2).toNatClampNeg).toInt64 &&& 4294967295))) (xs (x3 + 3).toNatClampNeg)) (by decide) m1027 hom rfl rfl rfl (Nat.le_of_ble_eq_true rfl) dL_law_387 e2 ?_
  refine l_same F 1034 dL_law_390 (by decide) ?_
  exact hnext hx1 hm1 hR1
set_option maxRecDepth 20000 in
set_option maxHeartbeats 4000000 in
theorem lc_bridge {z : MC} {gx gm : GC} {A : Nat → Prop} {b L : Nat} {xs : Nat → Int32} {Qs : State → Prop} (F : FL z gx gm A b L xs) (hox : (gL gx)[0]? = some (.inl 7)) (hom : (gL gm)[0]? = some (.inl 8)) {Rel : AH → AH → Prop} (hB : Both Rel) {x3 : Int32} (hi1 : vp_in (x3 + 1) L) (hi2 : vp_in (x3 + 2) L) (hi3 : vp_in (x3 + 3) L) (hi4 : vp_in (x3 + 4) L) (hi5 : vp_in (x3 + 5) L) (hnext : ∀ hx hm, Rel hx hm → Lw z gx gm A Qs 1034 [(0, .ref b), (1, .ref (gad gx 0)), (2, .ref (gad gm 0)), (3, .int x3)] [] hx hm) {hx hm : AH} (hR : Rel hx hm) : Lw z gx gm A Qs 395 [(0, .ref b), (1, .ref (gad gx 0)), (2, .ref (gad gm 0)), (3, .int x3)] [] hx hm := by
  obtain ⟨r, hx1, hm1, e1, e2, hR1⟩ := (hB.2.2.2.2.2.1) hx hm hR
  refine l_aload_n F dL_law_395 rfl 1 rfl ?_
  refine l_callX (f := fun h => f_X7_bridge 0  h) (As := []) F yv_X7_bridge (ct_X7_bridge z.2.1 gx hox ) (by decide) m349 hox rfl rfl rfl (Nat.le_of_ble_eq_true rfl) dL_law_396 e1 ?_
  refine l_aload_n F dL_law_399 rfl 2 rfl ?_
  refine l_callM (f := fun h => f_X8_bridge 0  h) (As := []) F yv_X8_bridge (ct_X8_bridge z.2.1 gm hom ) (by decide) m1034 hom rfl rfl rfl (Nat.le_of_ble_eq_true rfl) dL_law_400 e2 ?_
  refine l_same F 1034 dL_law_403 (by decide) ?_
  exact hnext hx1 hm1 hR1
set_option maxRecDepth 20000 in
set_option maxHeartbeats 4000000 in
theorem lc_fault {z : MC} {gx gm : GC} {A : Nat → Prop} {b L : Nat} {xs : Nat → Int32} {Qs : State → Prop} (F : FL z gx gm A b L xs) (hox : (gL gx)[0]? = some (.inl 7)) (hom : (gL gm)[0]? = some (.inl 8)) {Rel : AH → AH → Prop} (hB : Both Rel) {x3 : Int32} (hi1 : vp_in (x3 + 1) L) (hi2 : vp_in (x3 + 2) L) (hi3 : vp_in (x3 + 3) L) (hi4 : vp_in (x3 + 4) L) (hi5 : vp_in (x3 + 5) L) (hnext : ∀ hx hm, Rel hx hm → Lw z gx gm A Qs 1034 [(0, .ref b), (1, .ref (gad gx 0)), (2, .ref (gad gm 0)), (3, .int x3)] [] hx hm) {hx hm : AH} (hR : Rel hx hm) : Lw z gx gm A Qs 408 [(0, .ref b), (1, .ref (gad gx 0)), (2, .ref (gad gm 0)), (3, .int x3)] [] hx hm := by
  obtain ⟨r, hx1, hm1, e1, e2, hR1⟩ := (hB.2.2.2.2.2.2.1) hx hm hR
  refine l_aload_n F dL_law_408 rfl 1 rfl ?_
  refine l_callX (f := fun h => f_X7_fault 0  h) (As := []) F yv_X7_fault (ct_X7_fault z.2.1 gx hox ) (by decide) m523 hox rfl rfl rfl (Nat.le_of_ble_eq_true rfl) dL_law_409 e1 ?_
  refine l_aload_n F dL_law_412 rfl 2 rfl ?_
  refine l_callM (f := fun h => f_X8_fault 0  h) (As := []) F yv_X8_fault (ct_X8_fault z.2.1 gm hom ) (by decide) m1109 hom rfl rfl rfl (Nat.le_of_ble_eq_true rfl) dL_law_413 e2 ?_
  refine l_same F 1034 dL_law_416 (by decide) ?_
  exact hnext hx1 hm1 hR1
set_option maxRecDepth 20000 in
set_option maxHeartbeats 4000000 in
theorem lc_lend {z : MC} {gx gm : GC} {A : Nat → Prop} {b L : Nat} {xs : Nat → Int32} {Qs : State → Prop} (F : FL z gx gm A b L xs) (hox : (gL gx)[0]? = some (.inl 7)) (hom : (gL gm)[0]? = some (.inl 8)) {Rel : AH → AH → Prop} (hB : Both Rel) {x3 : Int32} (hi1 : vp_in (x3 + 1) L) (hi2 : vp_in (x3 + 2) L) (hi3 : vp_in (x3 + 3) L) (hi4 : vp_in (x3 + 4) L) (hi5 : vp_in (x3 + 5) L) (hnext : ∀ hx hm, Rel hx hm → Lw z gx gm A Qs 1034 [(0, .ref b), (1, .ref (gad gx 0)), (2, .ref (gad gm 0)), (3, .int x3)] [] hx hm) {hx hm : AH} (hR : Rel hx hm) : Lw z gx gm A Qs 421 [(0, .ref b), (1, .ref (gad gx 0)), (2, .ref (gad gm 0)), (3, .int x3)] [] hx hm := by
  obtain ⟨r, hx1, hm1, e1, e2, hR1⟩ := (hB.2.2.2.2.2.2.2.1) (xs (x3 + 1).toNatClampNeg) (xs (x3 + 2).toNatClampNeg) (xs (x3 + 3).toNatClampNeg) hx hm hR
  refine l_aload_n F dL_law_421 rfl 1 rfl ?_
  refine l_aload_n F dL_law_422 rfl 0 rfl ?_
  refine l_iload_n F dL_law_423 rfl 3 rfl ?_
  refine l_iconst F (v := 1) dL_law_424 (by decide) ?_
  refine l_iadd F dL_law_425 ?_
  refine l_sld F hi1 dL_law_426 ?_
  refine l_aload_n F dL_law_427 rfl 0 rfl ?_
  refine l_iload_n F dL_law_428 rfl 3 rfl ?_
  refine l_iconst F (v := 2) dL_law_429 (by decide) ?_
  refine l_iadd F dL_law_430 ?_
  refine l_sld F hi2 dL_law_431 ?_
  refine l_aload_n F dL_law_432 rfl 0 rfl ?_
  refine l_iload_n F dL_law_433 rfl 3 rfl ?_
  refine l_iconst F (v := 3) dL_law_434 (by decide) ?_
  refine l_iadd F dL_law_435 ?_
  refine l_sld F hi3 dL_law_436 ?_
  refine l_callX (f := fun h => f_X7_lend 0 (xs (x3 + 1).toNatClampNeg) (xs (x3 + 2).toNatClampNeg) (xs (x3 + 3).toNatClampNeg) h) (As := [.int (xs (x3 + 1).toNatClampNeg), .int (xs (x3 + 2).toNatClampNeg), .int (xs (x3 + 3).toNatClampNeg)]) F yv_X7_lend (ct_X7_lend z.2.1 gx hox (xs (x3 + 1).toNatClampNeg) (xs (x3 + 2).toNatClampNeg) (xs (x3 + 3).toNatClampNeg)) (by decide) m527 hox rfl rfl rfl (Nat.le_of_ble_eq_true rfl) dL_law_437 e1 ?_
  refine l_aload_n F dL_law_440 rfl 2 rfl ?_
  refine l_aload_n F dL_law_441 rfl 0 rfl ?_
  refine l_iload_n F dL_law_442 rfl 3 rfl ?_
  refine l_iconst F (v := 1) dL_law_443 (by decide) ?_
  refine l_iadd F dL_law_444 ?_
  refine l_sld F hi1 dL_law_445 ?_
  refine l_aload_n F dL_law_446 rfl 0 rfl ?_
  refine l_iload_n F dL_law_447 rfl 3 rfl ?_
  refine l_iconst F (v := 2) dL_law_448 (by decide) ?_
  refine l_iadd F dL_law_449 ?_
  refine l_sld F hi2 dL_law_450 ?_
  refine l_aload_n F dL_law_451 rfl 0 rfl ?_
  refine l_iload_n F dL_law_452 rfl 3 rfl ?_
  refine l_iconst F (v := 3) dL_law_453 (by decide) ?_
  refine l_iadd F dL_law_454 ?_
  refine l_sld F hi3 dL_law_455 ?_
  refine l_callM (f := fun h => f_X8_lend 0 (xs (x3 + 1).toNatClampNeg) (xs (x3 + 2).toNatClampNeg) (xs (x3 + 3).toNatClampNeg) h) (As := [.int (xs (x3 + 1).toNatClampNeg), .int (xs (x3 + 2).toNatClampNeg), .int (xs (x3 + 3).toNatClampNeg)]) F yv_X8_lend (ct_X8_lend z.2.1 gm hom (xs (x3 + 1).toNatClampNeg) (xs (x3 + 2).toNatClampNeg) (xs (x3 + 3).toNatClampNeg)) (by decide) m1113 hom rfl rfl rfl (Nat.le_of_ble_eq_true rfl) dL_law_456 e2 ?_
  refine l_same F 1034 dL_law_459 (by decide) ?_
  exact hnext hx1 hm1 hR1
set_option maxRecDepth 20000 in
set_option maxHeartbeats 4000000 in
theorem lc_shut {z : MC} {gx gm : GC} {A : Nat → Prop} {b L : Nat} {xs : Nat → Int32} {Qs : State → Prop} (F : FL z gx gm A b L xs) (hox : (gL gx)[0]? = some (.inl 7)) (hom : (gL gm)[0]? = some (.inl 8)) {Rel : AH → AH → Prop} (hB : Both Rel) {x3 : Int32} (hi1 : vp_in (x3 + 1) L) (hi2 : vp_in (x3 + 2) L) (hi3 : vp_in (x3 + 3) L) (hi4 : vp_in (x3 + 4) L) (hi5 : vp_in (x3 + 5) L) (hnext : ∀ hx hm, Rel hx hm → Lw z gx gm A Qs 1034 [(0, .ref b), (1, .ref (gad gx 0)), (2, .ref (gad gm 0)), (3, .int x3)] [] hx hm) {hx hm : AH} (hR : Rel hx hm) : Lw z gx gm A Qs 464 [(0, .ref b), (1, .ref (gad gx 0)), (2, .ref (gad gm 0)), (3, .int x3)] [] hx hm := by
  obtain ⟨r, hx1, hm1, e1, e2, hR1⟩ := (hB.2.2.2.2.2.2.2.2.1) (xs (x3 + 1).toNatClampNeg) (xs (x3 + 2).toNatClampNeg) hx hm hR
  refine l_aload_n F dL_law_464 rfl 1 rfl ?_
  refine l_aload_n F dL_law_465 rfl 0 rfl ?_
  refine l_iload_n F dL_law_466 rfl 3 rfl ?_
  refine l_iconst F (v := 1) dL_law_467 (by decide) ?_
  refine l_iadd F dL_law_468 ?_
  refine l_sld F hi1 dL_law_469 ?_
  refine l_aload_n F dL_law_470 rfl 0 rfl ?_
  refine l_iload_n F dL_law_471 rfl 3 rfl ?_
  refine l_iconst F (v := 2) dL_law_472 (by decide) ?_
  refine l_iadd F dL_law_473 ?_
  refine l_sld F hi2 dL_law_474 ?_
  refine l_callX (f := fun h => f_X7_shut 0 (xs (x3 + 1).toNatClampNeg) (xs (x3 + 2).toNatClampNeg) h) (As := [.int (xs (x3 + 1).toNatClampNeg), .int (xs (x3 + 2).toNatClampNeg)]) F yv_X7_shut (ct_X7_shut z.2.1 gx hox (xs (x3 + 1).toNatClampNeg) (xs (x3 + 2).toNatClampNeg)) (by decide) m548 hox rfl rfl rfl (Nat.le_of_ble_eq_true rfl) dL_law_475 e1 ?_
  refine l_aload_n F dL_law_478 rfl 2 rfl ?_
  refine l_aload_n F dL_law_479 rfl 0 rfl ?_
  refine l_iload_n F dL_law_480 rfl 3 rfl ?_
  refine l_iconst F (v := 1) dL_law_481 (by decide) ?_
  refine l_iadd F dL_law_482 ?_
  refine l_sld F hi1 dL_law_483 ?_
  refine l_aload_n F dL_law_484 rfl 0 rfl ?_
  refine l_iload_n F dL_law_485 rfl 3 rfl ?_
  refine l_iconst F (v := 2) dL_law_486 (by decide) ?_
  refine l_iadd F dL_law_487 ?_
  refine l_sld F hi2 dL_law_488 ?_
  refine l_callM (f := fun h => f_X8_shut 0 (xs (x3 + 1).toNatClampNeg) (xs (x3 + 2).toNatClampNeg) h) (As := [.int (xs (x3 + 1).toNatClampNeg), .int (xs (x3 + 2).toNatClampNeg)]) F yv_X8_shut (ct_X8_shut z.2.1 gm hom (xs (x3 + 1).toNatClampNeg) (xs (x3 + 2).toNatClampNeg)) (by decide) m1130 hom rfl rfl rfl (Nat.le_of_ble_eq_true rfl) dL_law_489 e2 ?_
  refine l_same F 1034 dL_law_492 (by decide) ?_
  exact hnext hx1 hm1 hR1
set_option maxRecDepth 20000 in
set_option maxHeartbeats 4000000 in
theorem lc_pass {z : MC} {gx gm : GC} {A : Nat → Prop} {b L : Nat} {xs : Nat → Int32} {Qs : State → Prop} (F : FL z gx gm A b L xs) (hox : (gL gx)[0]? = some (.inl 7)) (hom : (gL gm)[0]? = some (.inl 8)) {Rel : AH → AH → Prop} (hB : Both Rel) {x3 : Int32} (hi1 : vp_in (x3 + 1) L) (hi2 : vp_in (x3 + 2) L) (hi3 : vp_in (x3 + 3) L) (hi4 : vp_in (x3 + 4) L) (hi5 : vp_in (x3 + 5) L) (hnext : ∀ hx hm, Rel hx hm → Lw z gx gm A Qs 1034 [(0, .ref b), (1, .ref (gad gx 0)), (2, .ref (gad gm 0)), (3, .int x3)] [] hx hm) {hx hm : AH} (hR : Rel hx hm) : Lw z gx gm A Qs 497 [(0, .ref b), (1, .ref (gad gx 0)), (2, .ref (gad gm 0)), (3, .int x3)] [] hx hm := by
  obtain ⟨r, hx1, hm1, e1, e2, hR1⟩ := (hB.2.2.2.2.2.2.2.2.2.1) (xs (x3 + 1).toNatClampNeg) (xs (x3 + 2).toNatClampNeg) hx hm hR
  refine l_aload_n F dL_law_497 rfl 1 rfl ?_
  refine l_aload_n F dL_law_498 rfl 0 rfl ?_
  refine l_iload_n F dL_law_499 rfl 3 rfl ?_
  refine l_iconst F (v := 1) dL_law_500 (by decide) ?_
  refine l_iadd F dL_law_501 ?_
  refine l_sld F hi1 dL_law_502 ?_
  refine l_aload_n F dL_law_503 rfl 0 rfl ?_
  refine l_iload_n F dL_law_504 rfl 3 rfl ?_
  refine l_iconst F (v := 2) dL_law_505 (by decide) ?_
  refine l_iadd F dL_law_506 ?_
  refine l_sld F hi2 dL_law_507 ?_
  refine l_callX (f := fun h => f_X7_pass 0 (xs (x3 + 1).toNatClampNeg) (xs (x3 + 2).toNatClampNeg) h) (As := [.int (xs (x3 + 1).toNatClampNeg), .int (xs (x3 + 2).toNatClampNeg)]) F yv_X7_pass (ct_X7_pass z.2.1 gx hox (xs (x3 + 1).toNatClampNeg) (xs (x3 + 2).toNatClampNeg)) (by decide) m558 hox rfl rfl rfl (Nat.le_of_ble_eq_true rfl) dL_law_508 e1 ?_
  refine l_aload_n F dL_law_511 rfl 2 rfl ?_
  refine l_aload_n F dL_law_512 rfl 0 rfl ?_
  refine l_iload_n F dL_law_513 rfl 3 rfl ?_
  refine l_iconst F (v := 1) dL_law_514 (by decide) ?_
  refine l_iadd F dL_law_515 ?_
  refine l_sld F hi1 dL_law_516 ?_
  refine l_aload_n F dL_law_517 rfl 0 rfl ?_
  refine l_iload_n F dL_law_518 rfl 3 rfl ?_
  refine l_iconst F (v := 2) dL_law_519 (by decide) ?_
  refine l_iadd F dL_law_520 ?_
  refine l_sld F hi2 dL_law_521 ?_
  refine l_callM (f := fun h => f_X8_pass 0 (xs (x3 + 1).toNatClampNeg) (xs (x3 + 2).toNatClampNeg) h) (As := [.int (xs (x3 + 1).toNatClampNeg), .int (xs (x3 + 2).toNatClampNeg)]) F yv_X8_pass (ct_X8_pass z.2.1 gm hom (xs (x3 + 1).toNatClampNeg) (xs (x3 + 2).toNatClampNeg)) (by decide) m1134 hom rfl rfl rfl (Nat.le_of_ble_eq_true rfl) dL_law_522 e2 ?_
  refine l_same F 1034 dL_law_525 (by decide) ?_
  exact hnext hx1 hm1 hR1
set_option maxRecDepth 20000 in
set_option maxHeartbeats 4000000 in
theorem lc_split {z : MC} {gx gm : GC} {A : Nat → Prop} {b L : Nat} {xs : Nat → Int32} {Qs : State → Prop} (F : FL z gx gm A b L xs) (hox : (gL gx)[0]? = some (.inl 7)) (hom : (gL gm)[0]? = some (.inl 8)) {Rel : AH → AH → Prop} (hB : Both Rel) {x3 : Int32} (hi1 : vp_in (x3 + 1) L) (hi2 : vp_in (x3 + 2) L) (hi3 : vp_in (x3 + 3) L) (hi4 : vp_in (x3 + 4) L) (hi5 : vp_in (x3 + 5) L) (hnext : ∀ hx hm, Rel hx hm → Lw z gx gm A Qs 1034 [(0, .ref b), (1, .ref (gad gx 0)), (2, .ref (gad gm 0)), (3, .int x3)] [] hx hm) {hx hm : AH} (hR : Rel hx hm) : Lw z gx gm A Qs 530 [(0, .ref b), (1, .ref (gad gx 0)), (2, .ref (gad gm 0)), (3, .int x3)] [] hx hm := by
  obtain ⟨r, hx1, hm1, e1, e2, hR1⟩ := (hB.2.2.2.2.2.2.2.2.2.2.1) (xs (x3 + 1).toNatClampNeg) (xs (x3 + 2).toNatClampNeg) hx hm hR
  refine l_aload_n F dL_law_530 rfl 1 rfl ?_
  refine l_aload_n F dL_law_531 rfl 0 rfl ?_
  refine l_iload_n F dL_law_532 rfl 3 rfl ?_
  refine l_iconst F (v := 1) dL_law_533 (by decide) ?_
  refine l_iadd F dL_law_534 ?_
  refine l_sld F hi1 dL_law_535 ?_
  refine l_aload_n F dL_law_536 rfl 0 rfl ?_
  refine l_iload_n F dL_law_537 rfl 3 rfl ?_
  refine l_iconst F (v := 2) dL_law_538 (by decide) ?_
  refine l_iadd F dL_law_539 ?_
  refine l_sld F hi2 dL_law_540 ?_
  refine l_callX (f := fun h => f_X7_split 0 (xs (x3 + 1).toNatClampNeg) (xs (x3 + 2).toNatClampNeg) h) (As := [.int (xs (x3 + 1).toNatClampNeg), .int (xs (x3 + 2).toNatClampNeg)]) F yv_X7_split (ct_X7_split z.2.1 gx hox (xs (x3 + 1).toNatClampNeg) (xs (x3 + 2).toNatClampNeg)) (by decide) m634 hox rfl rfl rfl (Nat.le_of_ble_eq_true rfl) dL_law_541 e1 ?_
  refine l_aload_n F dL_law_544 rfl 2 rfl ?_
  refine l_aload_n F dL_law_545 rfl 0 rfl ?_
  refine l_iload_n F dL_law_546 rfl 3 rfl ?_
  refine l_iconst F (v := 1) dL_law_547 (by decide) ?_
  refine l_iadd F dL_law_548 ?_
  refine l_sld F hi1 dL_law_549 ?_
  refine l_aload_n F dL_law_550 rfl 0 rfl ?_
  refine l_iload_n F dL_law_551 rfl 3 rfl ?_
  refine l_iconst F (v := 2) dL_law_552 (by decide) ?_
  refine l_iadd F dL_law_553 ?_
  refine l_sld F hi2 dL_law_554 ?_
  refine l_callM (f := fun h => f_X8_split 0 (xs (x3 + 1).toNatClampNeg) (xs (x3 + 2).toNatClampNeg) h) (As := [.int (xs (x3 + 1).toNatClampNeg), .int (xs (x3 + 2).toNatClampNeg)]) F yv_X8_split (ct_X8_split z.2.1 gm hom (xs (x3 + 1).toNatClampNeg) (xs (x3 + 2).toNatClampNeg)) (by decide) m1178 hom rfl rfl rfl (Nat.le_of_ble_eq_true rfl) dL_law_555 e2 ?_
  refine l_same F 1034 dL_law_558 (by decide) ?_
  exact hnext hx1 hm1 hR1
set_option maxRecDepth 20000 in
set_option maxHeartbeats 4000000 in
theorem lc_hour {z : MC} {gx gm : GC} {A : Nat → Prop} {b L : Nat} {xs : Nat → Int32} {Qs : State → Prop} (F : FL z gx gm A b L xs) (hox : (gL gx)[0]? = some (.inl 7)) (hom : (gL gm)[0]? = some (.inl 8)) {Rel : AH → AH → Prop} (hB : Both Rel) {x3 : Int32} (hi1 : vp_in (x3 + 1) L) (hi2 : vp_in (x3 + 2) L) (hi3 : vp_in (x3 + 3) L) (hi4 : vp_in (x3 + 4) L) (hi5 : vp_in (x3 + 5) L) (hnext : ∀ hx hm, Rel hx hm → Lw z gx gm A Qs 1034 [(0, .ref b), (1, .ref (gad gx 0)), (2, .ref (gad gm 0)), (3, .int x3)] [] hx hm) {hx hm : AH} (hR : Rel hx hm) : Lw z gx gm A Qs 563 [(0, .ref b), (1, .ref (gad gx 0)), (2, .ref (gad gm 0)), (3, .int x3)] [] hx hm := by
  obtain ⟨r, hx1, hm1, e1, e2, hR1⟩ := (hB.2.2.2.2.2.2.2.2.2.2.2.1) hx hm hR
  refine l_aload_n F dL_law_563 rfl 1 rfl ?_
  refine l_callX (f := fun h => f_X7_hour 0  h) (As := []) F yv_X7_hour (ct_X7_hour z.2.1 gx hox ) (by decide) m647 hox rfl rfl rfl (Nat.le_of_ble_eq_true rfl) dL_law_564 e1 ?_
  refine l_aload_n F dL_law_567 rfl 2 rfl ?_
  refine l_callM (f := fun h => f_X8_hour 0  h) (As := []) F yv_X8_hour (ct_X8_hour z.2.1 gm hom ) (by decide) m1186 hom rfl rfl rfl (Nat.le_of_ble_eq_true rfl) dL_law_568 e2 ?_
  refine l_same F 1034 dL_law_571 (by decide) ?_
  exact hnext hx1 hm1 hR1
set_option maxRecDepth 20000 in
set_option maxHeartbeats 4000000 in
theorem lc_undo {z : MC} {gx gm : GC} {A : Nat → Prop} {b L : Nat} {xs : Nat → Int32} {Qs : State → Prop} (F : FL z gx gm A b L xs) (hox : (gL gx)[0]? = some (.inl 7)) (hom : (gL gm)[0]? = some (.inl 8)) {Rel : AH → AH → Prop} (hB : Both Rel) {x3 : Int32} (hi1 : vp_in (x3 + 1) L) (hi2 : vp_in (x3 + 2) L) (hi3 : vp_in (x3 + 3) L) (hi4 : vp_in (x3 + 4) L) (hi5 : vp_in (x3 + 5) L) (hnext : ∀ hx hm, Rel hx hm → Lw z gx gm A Qs 1034 [(0, .ref b), (1, .ref (gad gx 0)), (2, .ref (gad gm 0)), (3, .int x3)] [] hx hm) {hx hm : AH} (hR : Rel hx hm) : Lw z gx gm A Qs 576 [(0, .ref b), (1, .ref (gad gx 0)), (2, .ref (gad gm 0)), (3, .int x3)] [] hx hm := by
  obtain ⟨r, hx1, hm1, e1, e2, hR1⟩ := (hB.2.2.2.2.2.2.2.2.2.2.2.2.1) hx hm hR
  refine l_aload_n F dL_law_576 rfl 1 rfl ?_
  refine l_callX (f := fun h => f_X7_undo 0  h) (As := []) F yv_X7_undo (ct_X7_undo z.2.1 gx hox ) (by decide) m651 hox rfl rfl rfl (Nat.le_of_ble_eq_true rfl) dL_law_577 e1 ?_
  refine l_aload_n F dL_law_580 rfl 2 rfl ?_
  refine l_callM (f := fun h => f_X8_undo 0  h) (As := []) F yv_X8_undo (ct_X8_undo z.2.1 gm hom ) (by decide) m1190 hom rfl rfl rfl (Nat.le_of_ble_eq_true rfl) dL_law_581 e2 ?_
  refine l_same F 1034 dL_law_584 (by decide) ?_
  exact hnext hx1 hm1 hR1
set_option maxRecDepth 20000 in
set_option maxHeartbeats 4000000 in
theorem lc_arch {z : MC} {gx gm : GC} {A : Nat → Prop} {b L : Nat} {xs : Nat → Int32} {Qs : State → Prop} (F : FL z gx gm A b L xs) (hox : (gL gx)[0]? = some (.inl 7)) (hom : (gL gm)[0]? = some (.inl 8)) {Rel : AH → AH → Prop} (hB : Both Rel) {x3 : Int32} (hi1 : vp_in (x3 + 1) L) (hi2 : vp_in (x3 + 2) L) (hi3 : vp_in (x3 + 3) L) (hi4 : vp_in (x3 + 4) L) (hi5 : vp_in (x3 + 5) L) (hnext : ∀ hx hm, Rel hx hm → Lw z gx gm A Qs 1034 [(0, .ref b), (1, .ref (gad gx 0)), (2, .ref (gad gm 0)), (3, .int x3)] [] hx hm) {hx hm : AH} (hR : Rel hx hm) : Lw z gx gm A Qs 589 [(0, .ref b), (1, .ref (gad gx 0)), (2, .ref (gad gm 0)), (3, .int x3)] [] hx hm := by
  obtain ⟨r, hx1, hm1, e1, e2, hR1⟩ := (hB.2.2.2.2.2.2.2.2.2.2.2.2.2.1) (xs (x3 + 1).toNatClampNeg) (xs (x3 + 2).toNatClampNeg) hx hm hR
  refine l_aload_n F dL_law_589 rfl 1 rfl ?_
  refine l_aload_n F dL_law_590 rfl 0 rfl ?_
  refine l_iload_n F dL_law_591 rfl 3 rfl ?_
  refine l_iconst F (v := 1) dL_law_592 (by decide) ?_
  refine l_iadd F dL_law_593 ?_
  refine l_sld F hi1 dL_law_594 ?_
  refine l_aload_n F dL_law_595 rfl 0 rfl ?_
  refine l_iload_n F dL_law_596 rfl 3 rfl ?_
  refine l_iconst F (v := 2) dL_law_597 (by decide) ?_
  refine l_iadd F dL_law_598 ?_
  refine l_sld F hi2 dL_law_599 ?_
  refine l_callX (f := fun h => f_X7_arch 0 (xs (x3 + 1).toNatClampNeg) (xs (x3 + 2).toNatClampNeg) h) (As := [.int (xs (x3 + 1).toNatClampNeg), .int (xs (x3 + 2).toNatClampNeg)]) F yv_X7_arch (ct_X7_arch z.2.1 gx hox (xs (x3 + 1).toNatClampNeg) (xs (x3 + 2).toNatClampNeg)) (by decide) m673 hox rfl rfl rfl (Nat.le_of_ble_eq_true rfl) dL_law_600 e1 ?_
  refine l_aload_n F dL_law_603 rfl 2 rfl ?_
  refine l_aload_n F dL_law_604 rfl 0 rfl ?_
  refine l_iload_n F dL_law_605 rfl 3 rfl ?_
  refine l_iconst F (v := 1) dL_law_606 (by decide) ?_
  refine l_iadd F dL_law_607 ?_
  refine l_sld F hi1 dL_law_608 ?_
  refine l_aload_n F dL_law_609 rfl 0 rfl ?_
  refine l_iload_n F dL_law_610 rfl 3 rfl ?_
  refine l_iconst F (v := 2) dL_law_611 (by decide) ?_
  refine l_iadd F dL_law_612 ?_
  refine l_sld F hi2 dL_law_613 ?_
  refine l_callM (f := fun h => f_X8_arch 0 (xs (x3 + 1).toNatClampNeg) (xs (x3 + 2).toNatClampNeg) h) (As := [.int (xs (x3 + 1).toNatClampNeg), .int (xs (x3 + 2).toNatClampNeg)]) F yv_X8_arch (ct_X8_arch z.2.1 gm hom (xs (x3 + 1).toNatClampNeg) (xs (x3 + 2).toNatClampNeg)) (by decide) m1194 hom rfl rfl rfl (Nat.le_of_ble_eq_true rfl) dL_law_614 e2 ?_
  refine l_same F 1034 dL_law_617 (by decide) ?_
  exact hnext hx1 hm1 hR1
set_option maxRecDepth 20000 in
set_option maxHeartbeats 4000000 in
theorem lc_boat {z : MC} {gx gm : GC} {A : Nat → Prop} {b L : Nat} {xs : Nat → Int32} {Qs : State → Prop} (F : FL z gx gm A b L xs) (hox : (gL gx)[0]? = some (.inl 7)) (hom : (gL gm)[0]? = some (.inl 8)) {Rel : AH → AH → Prop} (hB : Both Rel) {x3 : Int32} (hi1 : vp_in (x3 + 1) L) (hi2 : vp_in (x3 + 2) L) (hi3 : vp_in (x3 + 3) L) (hi4 : vp_in (x3 + 4) L) (hi5 : vp_in (x3 + 5) L) (hnext : ∀ hx hm, Rel hx hm → Lw z gx gm A Qs 1034 [(0, .ref b), (1, .ref (gad gx 0)), (2, .ref (gad gm 0)), (3, .int x3)] [] hx hm) {hx hm : AH} (hR : Rel hx hm) : Lw z gx gm A Qs 622 [(0, .ref b), (1, .ref (gad gx 0)), (2, .ref (gad gm 0)), (3, .int x3)] [] hx hm := by
  obtain ⟨r, hx1, hm1, e1, e2, hR1⟩ := (hB.2.2.2.2.2.2.2.2.2.2.2.2.2.2.1) (xs (x3 + 1).toNatClampNeg) (xs (x3 + 2).toNatClampNeg) hx hm hR
  refine l_aload_n F dL_law_622 rfl 1 rfl ?_
  refine l_aload_n F dL_law_623 rfl 0 rfl ?_
  refine l_iload_n F dL_law_624 rfl 3 rfl ?_
  refine l_iconst F (v := 1) dL_law_625 (by decide) ?_
  refine l_iadd F dL_law_626 ?_
  refine l_sld F hi1 dL_law_627 ?_
  refine l_aload_n F dL_law_628 rfl 0 rfl ?_
  refine l_iload_n F dL_law_629 rfl 3 rfl ?_
  refine l_iconst F (v := 2) dL_law_630 (by decide) ?_
  refine l_iadd F dL_law_631 ?_
  refine l_sld F hi2 dL_law_632 ?_
  refine l_callX (f := fun h => f_X7_boat 0 (xs (x3 + 1).toNatClampNeg) (xs (x3 + 2).toNatClampNeg) h) (As := [.int (xs (x3 + 1).toNatClampNeg), .int (xs (x3 + 2).toNatClampNeg)]) F yv_X7_boat (ct_X7_boat z.2.1 gx hox (xs (x3 + 1).toNatClampNeg) (xs (x3 + 2).toNatClampNeg)) (by decide) m677 hox rfl rfl rfl (Nat.le_of_ble_eq_true rfl) dL_law_633 e1 ?_
  refine l_aload_n F dL_law_636 rfl 2 rfl ?_
  refine l_aload_n F dL_law_637 rfl 0 rfl ?_
  refine l_iload_n F dL_law_638 rfl 3 rfl ?_
  refine l_iconst F (v := 1) dL_law_639 (by decide) ?_
  refine l_iadd F dL_law_640 ?_
  refine l_sld F hi1 dL_law_641 ?_
  refine l_aload_n F dL_law_642 rfl 0 rfl ?_
  refine l_iload_n F dL_law_643 rfl 3 rfl ?_
  refine l_iconst F (v := 2) dL_law_644 (by decide) ?_
  refine l_iadd F dL_law_645 ?_
  refine l_sld F hi2 dL_law_646 ?_
  refine l_callM (f := fun h => f_X8_boat 0 (xs (x3 + 1).toNatClampNeg) (xs (x3 + 2).toNatClampNeg) h) (As := [.int (xs (x3 + 1).toNatClampNeg), .int (xs (x3 + 2).toNatClampNeg)]) F yv_X8_boat (ct_X8_boat z.2.1 gm hom (xs (x3 + 1).toNatClampNeg) (xs (x3 + 2).toNatClampNeg)) (by decide) m1199 hom rfl rfl rfl (Nat.le_of_ble_eq_true rfl) dL_law_647 e2 ?_
  refine l_same F 1034 dL_law_650 (by decide) ?_
  exact hnext hx1 hm1 hR1
set_option maxRecDepth 20000 in
set_option maxHeartbeats 4000000 in
theorem lc_may {z : MC} {gx gm : GC} {A : Nat → Prop} {b L : Nat} {xs : Nat → Int32} {Qs : State → Prop} (F : FL z gx gm A b L xs) (hox : (gL gx)[0]? = some (.inl 7)) (hom : (gL gm)[0]? = some (.inl 8)) {Rel : AH → AH → Prop} (hB : Both Rel) {x3 : Int32} (hi1 : vp_in (x3 + 1) L) (hi2 : vp_in (x3 + 2) L) (hi3 : vp_in (x3 + 3) L) (hi4 : vp_in (x3 + 4) L) (hi5 : vp_in (x3 + 5) L) (hnext : ∀ hx hm, Rel hx hm → Lw z gx gm A Qs 1034 [(0, .ref b), (1, .ref (gad gx 0)), (2, .ref (gad gm 0)), (3, .int x3)] [] hx hm) {hx hm : AH} (hR : Rel hx hm) : Lw z gx gm A Qs 655 [(0, .ref b), (1, .ref (gad gx 0)), (2, .ref (gad gm 0)), (3, .int x3)] [] hx hm := by
  obtain ⟨r, hx1, hm1, e1, e2, hR1⟩ := (hB.2.2.2.2.2.2.2.2.2.2.2.2.2.2.2.1) (xs (x3 + 1).toNatClampNeg) (xs (x3 + 2).toNatClampNeg) hx hm hR
  refine l_aload_n F dL_law_655 rfl 1 rfl ?_
  refine l_aload_n F dL_law_656 rfl 0 rfl ?_
  refine l_iload_n F dL_law_657 rfl 3 rfl ?_
  refine l_iconst F (v := 1) dL_law_658 (by decide) ?_
  refine l_iadd F dL_law_659 ?_
  refine l_sld F hi1 dL_law_660 ?_
  refine l_aload_n F dL_law_661 rfl 0 rfl ?_
  refine l_iload_n F dL_law_662 rfl 3 rfl ?_
  refine l_iconst F (v := 2) dL_law_663 (by decide) ?_
  refine l_iadd F dL_law_664 ?_
  refine l_sld F hi2 dL_law_665 ?_
  refine l_callX (f := fun h => f_X7_may 0 (xs (x3 + 1).toNatClampNeg) (xs (x3 + 2).toNatClampNeg) h) (As := [.int (xs (x3 + 1).toNatClampNeg), .int (xs (x3 + 2).toNatClampNeg)]) F yv_X7_may (ct_X7_may z.2.1 gx hox (xs (x3 + 1).toNatClampNeg) (xs (x3 + 2).toNatClampNeg)) (by decide) m688 hox rfl rfl rfl (Nat.le_of_ble_eq_true rfl) dL_law_666 e1 ?_
  refine l_aload_n F dL_law_669 rfl 2 rfl ?_
  refine l_aload_n F dL_law_670 rfl 0 rfl ?_
  refine l_iload_n F dL_law_671 rfl 3 rfl ?_
  refine l_iconst F (v := 1) dL_law_672 (by decide) ?_
  refine l_iadd F dL_law_673 ?_
  refine l_sld F hi1 dL_law_674 ?_
  refine l_aload_n F dL_law_675 rfl 0 rfl ?_
  refine l_iload_n F dL_law_676 rfl 3 rfl ?_
  refine l_iconst F (v := 2) dL_law_677 (by decide) ?_
  refine l_iadd F dL_law_678 ?_
  refine l_sld F hi2 dL_law_679 ?_
  refine l_callM (f := fun h => f_X8_may 0 (xs (x3 + 1).toNatClampNeg) (xs (x3 + 2).toNatClampNeg) h) (As := [.int (xs (x3 + 1).toNatClampNeg), .int (xs (x3 + 2).toNatClampNeg)]) F yv_X8_may (ct_X8_may z.2.1 gm hom (xs (x3 + 1).toNatClampNeg) (xs (x3 + 2).toNatClampNeg)) (by decide) m1207 hom rfl rfl rfl (Nat.le_of_ble_eq_true rfl) dL_law_680 e2 ?_
  refine l_same F 1034 dL_law_683 (by decide) ?_
  exact hnext hx1 hm1 hR1
set_option maxRecDepth 20000 in
set_option maxHeartbeats 4000000 in
theorem lc_most {z : MC} {gx gm : GC} {A : Nat → Prop} {b L : Nat} {xs : Nat → Int32} {Qs : State → Prop} (F : FL z gx gm A b L xs) (hox : (gL gx)[0]? = some (.inl 7)) (hom : (gL gm)[0]? = some (.inl 8)) {Rel : AH → AH → Prop} (hB : Both Rel) {x3 : Int32} (hi1 : vp_in (x3 + 1) L) (hi2 : vp_in (x3 + 2) L) (hi3 : vp_in (x3 + 3) L) (hi4 : vp_in (x3 + 4) L) (hi5 : vp_in (x3 + 5) L) (hnext : ∀ hx hm, Rel hx hm → Lw z gx gm A Qs 1034 [(0, .ref b), (1, .ref (gad gx 0)), (2, .ref (gad gm 0)), (3, .int x3)] [] hx hm) {hx hm : AH} (hR : Rel hx hm) : Lw z gx gm A Qs 688 [(0, .ref b), (1, .ref (gad gx 0)), (2, .ref (gad gm 0)), (3, .int x3)] [] hx hm := by
  obtain ⟨r, hx1, hm1, e1, e2, hR1⟩ := (hB.2.2.2.2.2.2.2.2.2.2.2.2.2.2.2.2.1) (xs (x3 + 1).toNatClampNeg) (xs (x3 + 2).toNatClampNeg) (xs (x3 + 3).toNatClampNeg) hx hm hR
  refine l_aload_n F dL_law_688 rfl 1 rfl ?_
  refine l_aload_n F dL_law_689 rfl 0 rfl ?_
  refine l_iload_n F dL_law_690 rfl 3 rfl ?_
  refine l_iconst F (v := 1) dL_law_691 (by decide) ?_
  refine l_iadd F dL_law_692 ?_
  refine l_sld F hi1 dL_law_693 ?_
  refine l_aload_n F dL_law_694 rfl 0 rfl ?_
  refine l_iload_n F dL_law_695 rfl 3 rfl ?_
  refine l_iconst F (v := 2) dL_law_696 (by decide) ?_
  refine l_iadd F dL_law_697 ?_
  refine l_sld F hi2 dL_law_698 ?_
  refine l_aload_n F dL_law_699 rfl 0 rfl ?_
  refine l_iload_n F dL_law_700 rfl 3 rfl ?_
  refine l_iconst F (v := 3) dL_law_701 (by decide) ?_
  refine l_iadd F dL_law_702 ?_
  refine l_sld F hi3 dL_law_703 ?_
  refine l_callX (f := fun h => f_X7_most 0 (xs (x3 + 1).toNatClampNeg) (xs (x3 + 2).toNatClampNeg) (xs (x3 + 3).toNatClampNeg) h) (As := [.int (xs (x3 + 1).toNatClampNeg), .int (xs (x3 + 2).toNatClampNeg), .int (xs (x3 + 3).toNatClampNeg)]) F yv_X7_most (ct_X7_most z.2.1 gx hox (xs (x3 + 1).toNatClampNeg) (xs (x3 + 2).toNatClampNeg) (xs (x3 + 3).toNatClampNeg)) (by decide) m695 hox rfl rfl rfl (Nat.le_of_ble_eq_true rfl) dL_law_704 e1 ?_
  refine l_aload_n F dL_law_707 rfl 2 rfl ?_
  refine l_aload_n F dL_law_708 rfl 0 rfl ?_
  refine l_iload_n F dL_law_709 rfl 3 rfl ?_
  refine l_iconst F (v := 1) dL_law_710 (by decide) ?_
  refine l_iadd F dL_law_711 ?_
  refine l_sld F hi1 dL_law_712 ?_
  refine l_aload_n F dL_law_713 rfl 0 rfl ?_
  refine l_iload_n F dL_law_714 rfl 3 rfl ?_
  refine l_iconst F (v := 2) dL_law_715 (by decide) ?_
  refine l_iadd F dL_law_716 ?_
  refine l_sld F hi2 dL_law_717 ?_
  refine l_aload_n F dL_law_718 rfl 0 rfl ?_
  refine l_iload_n F dL_law_719 rfl 3 rfl ?_
  refine l_iconst F (v := 3) dL_law_720 (by decide) ?_
  refine l_iadd F dL_law_721 ?_
  refine l_sld F hi3 dL_law_722 ?_
  refine l_callM (f := fun h => f_X8_most 0 (xs (x3 + 1).toNatClampNeg) (xs (x3 + 2).toNatClampNeg) (xs (x3 + 3).toNatClampNeg) h) (As := [.int (xs (x3 + 1).toNatClampNeg), .int (xs (x3 + 2).toNatClampNeg), .int (xs (x3 + 3).toNatClampNeg)]) F yv_X8_most (ct_X8_most z.2.1 gm hom (xs (x3 + 1).toNatClampNeg) (xs (x3 + 2).toNatClampNeg) (xs (x3 + 3).toNatClampNeg)) (by decide) m1215 hom rfl rfl rfl (Nat.le_of_ble_eq_true rfl) dL_law_723 e2 ?_
  refine l_same F 1034 dL_law_726 (by decide) ?_
  exact hnext hx1 hm1 hR1
set_option maxRecDepth 20000 in
set_option maxHeartbeats 4000000 in
theorem lc_anew {z : MC} {gx gm : GC} {A : Nat → Prop} {b L : Nat} {xs : Nat → Int32} {Qs : State → Prop} (F : FL z gx gm A b L xs) (hox : (gL gx)[0]? = some (.inl 7)) (hom : (gL gm)[0]? = some (.inl 8)) {Rel : AH → AH → Prop} (hB : Both Rel) {x3 : Int32} (hi1 : vp_in (x3 + 1) L) (hi2 : vp_in (x3 + 2) L) (hi3 : vp_in (x3 + 3) L) (hi4 : vp_in (x3 + 4) L) (hi5 : vp_in (x3 + 5) L) (hnext : ∀ hx hm, Rel hx hm → Lw z gx gm A Qs 1034 [(0, .ref b), (1, .ref (gad gx 0)), (2, .ref (gad gm 0)), (3, .int x3)] [] hx hm) {hx hm : AH} (hR : Rel hx hm) : Lw z gx gm A Qs 731 [(0, .ref b), (1, .ref (gad gx 0)), (2, .ref (gad gm 0)), (3, .int x3)] [] hx hm := by
  obtain ⟨r, hx1, hm1, e1, e2, hR1⟩ := (hB.2.2.2.2.2.2.2.2.2.2.2.2.2.2.2.2.2.1) (xs (x3 + 1).toNatClampNeg) (xs (x3 + 2).toNatClampNeg) (xs (x3 + 3).toNatClampNeg) hx hm hR
  refine l_aload_n F dL_law_731 rfl 1 rfl ?_
  refine l_aload_n F dL_law_732 rfl 0 rfl ?_
  refine l_iload_n F dL_law_733 rfl 3 rfl ?_
  refine l_iconst F (v := 1) dL_law_734 (by decide) ?_
  refine l_iadd F dL_law_735 ?_
  refine l_sld F hi1 dL_law_736 ?_
  refine l_aload_n F dL_law_737 rfl 0 rfl ?_
  refine l_iload_n F dL_law_738 rfl 3 rfl ?_
  refine l_iconst F (v := 2) dL_law_739 (by decide) ?_
  refine l_iadd F dL_law_740 ?_
  refine l_sld F hi2 dL_law_741 ?_
  refine l_aload_n F dL_law_742 rfl 0 rfl ?_
  refine l_iload_n F dL_law_743 rfl 3 rfl ?_
  refine l_iconst F (v := 3) dL_law_744 (by decide) ?_
  refine l_iadd F dL_law_745 ?_
  refine l_sld F hi3 dL_law_746 ?_
  refine l_callX (f := fun h => f_X7_anew 0 (xs (x3 + 1).toNatClampNeg) (xs (x3 + 2).toNatClampNeg) (xs (x3 + 3).toNatClampNeg) h) (As := [.int (xs (x3 + 1).toNatClampNeg), .int (xs (x3 + 2).toNatClampNeg), .int (xs (x3 + 3).toNatClampNeg)]) F yv_X7_anew (ct_X7_anew z.2.1 gx hox (xs (x3 + 1).toNatClampNeg) (xs (x3 + 2).toNatClampNeg) (xs (x3 + 3).toNatClampNeg)) (by decide) m752 hox rfl rfl rfl (Nat.le_of_ble_eq_true rfl) dL_law_747 e1 ?_
  refine l_aload_n F dL_law_750 rfl 2 rfl ?_
  refine l_aload_n F dL_law_751 rfl 0 rfl ?_
  refine l_iload_n F dL_law_752 rfl 3 rfl ?_
  refine l_iconst F (v := 1) dL_law_753 (by decide) ?_
  refine l_iadd F dL_law_754 ?_
  refine l_sld F hi1 dL_law_755 ?_
  refine l_aload_n F dL_law_756 rfl 0 rfl ?_
  refine l_iload_n F dL_law_757 rfl 3 rfl ?_
  refine l_iconst F (v := 2) dL_law_758 (by decide) ?_
  refine l_iadd F dL_law_759 ?_
  refine l_sld F hi2 dL_law_760 ?_
  refine l_aload_n F dL_law_761 rfl 0 rfl ?_
  refine l_iload_n F dL_law_762 rfl 3 rfl ?_
  refine l_iconst F (v := 3) dL_law_763 (by decide) ?_
  refine l_iadd F dL_law_764 ?_
  refine l_sld F hi3 dL_law_765 ?_
  refine l_callM (f := fun h => f_X8_anew 0 (xs (x3 + 1).toNatClampNeg) (xs (x3 + 2).toNatClampNeg) (xs (x3 + 3).toNatClampNeg) h) (As := [.int (xs (x3 + 1).toNatClampNeg), .int (xs (x3 + 2).toNatClampNeg), .int (xs (x3 + 3).toNatClampNeg)]) F yv_X8_anew (ct_X8_anew z.2.1 gm hom (xs (x3 + 1).toNatClampNeg) (xs (x3 + 2).toNatClampNeg) (xs (x3 + 3).toNatClampNeg)) (by decide) m1251 hom rfl rfl rfl (Nat.le_of_ble_eq_true rfl) dL_law_766 e2 ?_
  refine l_same F 1034 dL_law_769 (by decide) ?_
  exact hnext hx1 hm1 hR1
set_option maxRecDepth 20000 in
set_option maxHeartbeats 4000000 in
theorem lc_cut {z : MC} {gx gm : GC} {A : Nat → Prop} {b L : Nat} {xs : Nat → Int32} {Qs : State → Prop} (F : FL z gx gm A b L xs) (hox : (gL gx)[0]? = some (.inl 7)) (hom : (gL gm)[0]? = some (.inl 8)) {Rel : AH → AH → Prop} (hB : Both Rel) {x3 : Int32} (hi1 : vp_in (x3 + 1) L) (hi2 : vp_in (x3 + 2) L) (hi3 : vp_in (x3 + 3) L) (hi4 : vp_in (x3 + 4) L) (hi5 : vp_in (x3 + 5) L) (hnext : ∀ hx hm, Rel hx hm → Lw z gx gm A Qs 1034 [(0, .ref b), (1, .ref (gad gx 0)), (2, .ref (gad gm 0)), (3, .int x3)] [] hx hm) {hx hm : AH} (hR : Rel hx hm) : Lw z gx gm A Qs 774 [(0, .ref b), (1, .ref (gad gx 0)), (2, .ref (gad gm 0)), (3, .int x3)] [] hx hm := by
  obtain ⟨r, hx1, hm1, e1, e2, hR1⟩ := (hB.2.2.2.2.2.2.2.2.2.2.2.2.2.2.2.2.2.2.1) (xs (x3 + 1).toNatClampNeg) (xs (x3 + 2).toNatClampNeg) hx hm hR
  refine l_aload_n F dL_law_774 rfl 1 rfl ?_
  refine l_aload_n F dL_law_775 rfl 0 rfl ?_
  refine l_iload_n F dL_law_776 rfl 3 rfl ?_
  refine l_iconst F (v := 1) dL_law_777 (by decide) ?_
  refine l_iadd F dL_law_778 ?_
  refine l_sld F hi1 dL_law_779 ?_
  refine l_aload_n F dL_law_780 rfl 0 rfl ?_
  refine l_iload_n F dL_law_781 rfl 3 rfl ?_
  refine l_iconst F (v := 2) dL_law_782 (by decide) ?_
  refine l_iadd F dL_law_783 ?_
  refine l_sld F hi2 dL_law_784 ?_
  refine l_callX (f := fun h => f_X7_cut 0 (xs (x3 + 1).toNatClampNeg) (xs (x3 + 2).toNatClampNeg) h) (As := [.int (xs (x3 + 1).toNatClampNeg), .int (xs (x3 + 2).toNatClampNeg)]) F yv_X7_cut (ct_X7_cut z.2.1 gx hox (xs (x3 + 1).toNatClampNeg) (xs (x3 + 2).toNatClampNeg)) (by decide) m780 hox rfl rfl rfl (Nat.le_of_ble_eq_true rfl) dL_law_785 e1 ?_
  refine l_aload_n F dL_law_788 rfl 2 rfl ?_
  refine l_aload_n F dL_law_789 rfl 0 rfl ?_
  refine l_iload_n F dL_law_790 rfl 3 rfl ?_
  refine l_iconst F (v := 1) dL_law_791 (by decide) ?_
  refine l_iadd F dL_law_792 ?_
  refine l_sld F hi1 dL_law_793 ?_
  refine l_aload_n F dL_law_794 rfl 0 rfl ?_
  refine l_iload_n F dL_law_795 rfl 3 rfl ?_
  refine l_iconst F (v := 2) dL_law_796 (by decide) ?_
  refine l_iadd F dL_law_797 ?_
  refine l_sld F hi2 dL_law_798 ?_
  refine l_callM (f := fun h => f_X8_cut 0 (xs (x3 + 1).toNatClampNeg) (xs (x3 + 2).toNatClampNeg) h) (As := [.int (xs (x3 + 1).toNatClampNeg), .int (xs (x3 + 2).toNatClampNeg)]) F yv_X8_cut (ct_X8_cut z.2.1 gm hom (xs (x3 + 1).toNatClampNeg) (xs (x3 + 2).toNatClampNeg)) (by decide) m1267 hom rfl rfl rfl (Nat.le_of_ble_eq_true rfl) dL_law_799 e2 ?_
  refine l_same F 1034 dL_law_802 (by decide) ?_
  exact hnext hx1 hm1 hR1
set_option maxRecDepth 20000 in
set_option maxHeartbeats 4000000 in
theorem lc_weighed {z : MC} {gx gm : GC} {A : Nat → Prop} {b L : Nat} {xs : Nat → Int32} {Qs : State → Prop} (F : FL z gx gm A b L xs) (hox : (gL gx)[0]? = some (.inl 7)) (hom : (gL gm)[0]? = some (.inl 8)) {Rel : AH → AH → Prop} (hB : Both Rel) {x3 : Int32} (hi1 : vp_in (x3 + 1) L) (hi2 : vp_in (x3 + 2) L) (hi3 : vp_in (x3 + 3) L) (hi4 : vp_in (x3 + 4) L) (hi5 : vp_in (x3 + 5) L) (hnext : ∀ hx hm, Rel hx hm → Lw z gx gm A Qs 1034 [(0, .ref b), (1, .ref (gad gx 0)), (2, .ref (gad gm 0)), (3, .int x3)] [] hx hm) {hx hm : AH} (hR : Rel hx hm) : Lw z gx gm A Qs 807 [(0, .ref b), (1, .ref (gad gx 0)), (2, .ref (gad gm 0)), (3, .int x3)] [] hx hm := by
  obtain ⟨r, hx1, hm1, e1, e2, hR1⟩ := (hB.2.2.2.2.2.2.2.2.2.2.2.2.2.2.2.2.2.2.2.1) (xs (x3 + 1).toNatClampNeg) (xs (x3 + 2).toNatClampNeg) hx hm hR
  refine l_aload_n F dL_law_807 rfl 1 rfl ?_
  refine l_aload_n F dL_law_808 rfl 0 rfl ?_
  refine l_iload_n F dL_law_809 rfl 3 rfl ?_
  refine l_iconst F (v := 1) dL_law_810 (by decide) ?_
  refine l_iadd F dL_law_811 ?_
  refine l_sld F hi1 dL_law_812 ?_
  refine l_aload_n F dL_law_813 rfl 0 rfl ?_
  refine l_iload_n F dL_law_814 rfl 3 rfl ?_
  refine l_iconst F (v := 2) dL_law_815 (by decide) ?_
  refine l_iadd F dL_law_816 ?_
  refine l_sld F hi2 dL_law_817 ?_
  refine l_callX (f := fun h => f_X7_weighed 0 (xs (x3 + 1).toNatClampNeg) (xs (x3 + 2).toNatClampNeg) h) (As := [.int (xs (x3 + 1).toNatClampNeg), .int (xs (x3 + 2).toNatClampNeg)]) F yv_X7_weighed (ct_X7_weighed z.2.1 gx hox (xs (x3 + 1).toNatClampNeg) (xs (x3 + 2).toNatClampNeg)) (by decide) m788 hox rfl rfl rfl (Nat.le_of_ble_eq_true rfl) dL_law_818 e1 ?_
  refine l_aload_n F dL_law_821 rfl 2 rfl ?_
  refine l_aload_n F dL_law_822 rfl 0 rfl ?_
  refine l_iload_n F dL_law_823 rfl 3 rfl ?_
  refine l_iconst F (v := 1) dL_law_824 (by decide) ?_
  refine l_iadd F dL_law_825 ?_
  refine l_sld F hi1 dL_law_826 ?_
  refine l_aload_n F dL_law_827 rfl 0 rfl ?_
  refine l_iload_n F dL_law_828 rfl 3 rfl ?_
  refine l_iconst F (v := 2) dL_law_829 (by decide) ?_
  refine l_iadd F dL_law_830 ?_
  refine l_sld F hi2 dL_law_831 ?_
  refine l_callM (f := fun h => f_X8_weighed 0 (xs (x3 + 1).toNatClampNeg) (xs (x3 + 2).toNatClampNeg) h) (As := [.int (xs (x3 + 1).toNatClampNeg), .int (xs (x3 + 2).toNatClampNeg)]) F yv_X8_weighed (ct_X8_weighed z.2.1 gm hom (xs (x3 + 1).toNatClampNeg) (xs (x3 + 2).toNatClampNeg)) (by decide) m1273 hom rfl rfl rfl (Nat.le_of_ble_eq_true rfl) dL_law_832 e2 ?_
  refine l_same F 1034 dL_law_835 (by decide) ?_
  exact hnext hx1 hm1 hR1
set_option maxRecDepth 20000 in
set_option maxHeartbeats 4000000 in
theorem lc_image {z : MC} {gx gm : GC} {A : Nat → Prop} {b L : Nat} {xs : Nat → Int32} {Qs : State → Prop} (F : FL z gx gm A b L xs) (hox : (gL gx)[0]? = some (.inl 7)) (hom : (gL gm)[0]? = some (.inl 8)) {Rel : AH → AH → Prop} (hB : Both Rel) {x3 : Int32} (hi1 : vp_in (x3 + 1) L) (hi2 : vp_in (x3 + 2) L) (hi3 : vp_in (x3 + 3) L) (hi4 : vp_in (x3 + 4) L) (hi5 : vp_in (x3 + 5) L) (hnext : ∀ hx hm, Rel hx hm → Lw z gx gm A Qs 1034 [(0, .ref b), (1, .ref (gad gx 0)), (2, .ref (gad gm 0)), (3, .int x3)] [] hx hm) {hx hm : AH} (hR : Rel hx hm) : Lw z gx gm A Qs 840 [(0, .ref b), (1, .ref (gad gx 0)), (2, .ref (gad gm 0)), (3, .int x3)] [] hx hm := by
  obtain ⟨r, hx1, hm1, e1, e2, hR1⟩ := (hB.2.2.2.2.2.2.2.2.2.2.2.2.2.2.2.2.2.2.2.2.1) (xs (x3 + 1).toNatClampNeg) hx hm hR
  refine l_aload_n F dL_law_840 rfl 1 rfl ?_
  refine l_aload_n F dL_law_841 rfl 0 rfl ?_
  refine l_iload_n F dL_law_842 rfl 3 rfl ?_
  refine l_iconst F (v := 1) dL_law_843 (by decide) ?_
  refine l_iadd F dL_law_844 ?_
  refine l_sld F hi1 dL_law_845 ?_
  refine l_callX (f := fun h => f_X7_image 0 (xs (x3 + 1).toNatClampNeg) h) (As := [.int (xs (x3 + 1).toNatClampNeg)]) F yv_X7_image (ct_X7_image z.2.1 gx hox (xs (x3 + 1).toNatClampNeg)) (by decide) m812 hox rfl rfl rfl (Nat.le_of_ble_eq_true rfl) dL_law_846 e1 ?_
  refine l_aload_n F dL_law_849 rfl 2 rfl ?_
  refine l_aload_n F dL_law_850 rfl 0 rfl ?_
  refine l_iload_n F dL_law_851 rfl 3 rfl ?_
  refine l_iconst F (v := 1) dL_law_852 (by decide) ?_
  refine l_iadd F dL_law_853 ?_
  refine l_sld F hi1 dL_law_854 ?_
  refine l_callM (f := fun h => f_X8_image 0 (xs (x3 + 1).toNatClampNeg) h) (As := [.int (xs (x3 + 1).toNatClampNeg)]) F yv_X8_image (ct_X8_image z.2.1 gm hom (xs (x3 + 1).toNatClampNeg)) (by decide) m1280 hom rfl rfl rfl (Nat.le_of_ble_eq_true rfl) dL_law_855 e2 ?_
  refine l_same F 1034 dL_law_858 (by decide) ?_
  exact hnext hx1 hm1 hR1
set_option maxRecDepth 20000 in
set_option maxHeartbeats 4000000 in
theorem lc_restore {z : MC} {gx gm : GC} {A : Nat → Prop} {b L : Nat} {xs : Nat → Int32} {Qs : State → Prop} (F : FL z gx gm A b L xs) (hox : (gL gx)[0]? = some (.inl 7)) (hom : (gL gm)[0]? = some (.inl 8)) {Rel : AH → AH → Prop} (hB : Both Rel) {x3 : Int32} (hi1 : vp_in (x3 + 1) L) (hi2 : vp_in (x3 + 2) L) (hi3 : vp_in (x3 + 3) L) (hi4 : vp_in (x3 + 4) L) (hi5 : vp_in (x3 + 5) L) (hnext : ∀ hx hm, Rel hx hm → Lw z gx gm A Qs 1034 [(0, .ref b), (1, .ref (gad gx 0)), (2, .ref (gad gm 0)), (3, .int x3)] [] hx hm) {hx hm : AH} (hR : Rel hx hm) : Lw z gx gm A Qs 863 [(0, .ref b), (1, .ref (gad gx 0)), (2, .ref (gad gm 0)), (3, .int x3)] [] hx hm := by
  obtain ⟨r, hx1, hm1, e1, e2, hR1⟩ := (hB.2.2.2.2.2.2.2.2.2.2.2.2.2.2.2.2.2.2.2.2.2.1) (xs (x3 + 1).toNatClampNeg) hx hm hR
  refine l_aload_n F dL_law_863 rfl 1 rfl ?_
  refine l_aload_n F dL_law_864 rfl 0 rfl ?_
  refine l_iload_n F dL_law_865 rfl 3 rfl ?_
  refine l_iconst F (v := 1) dL_law_866 (by decide) ?_
  refine l_iadd F dL_law_867 ?_
  refine l_sld F hi1 dL_law_868 ?_
  refine l_callX (f := fun h => f_X7_restore 0 (xs (x3 + 1).toNatClampNeg) h) (As := [.int (xs (x3 + 1).toNatClampNeg)]) F yv_X7_restore (ct_X7_restore z.2.1 gx hox (xs (x3 + 1).toNatClampNeg)) (by decide) m823 hox rfl rfl rfl (Nat.le_of_ble_eq_true rfl) dL_law_869 e1 ?_
  refine l_aload_n F dL_law_872 rfl 2 rfl ?_
  refine l_aload_n F dL_law_873 rfl 0 rfl ?_
  refine l_iload_n F dL_law_874 rfl 3 rfl ?_
  refine l_iconst F (v := 1) dL_law_875 (by decide) ?_
  refine l_iadd F dL_law_876 ?_
  refine l_sld F hi1 dL_law_877 ?_
  refine l_callM (f := fun h => f_X8_restore 0 (xs (x3 + 1).toNatClampNeg) h) (As := [.int (xs (x3 + 1).toNatClampNeg)]) F yv_X8_restore (ct_X8_restore z.2.1 gm hom (xs (x3 + 1).toNatClampNeg)) (by decide) m1284 hom rfl rfl rfl (Nat.le_of_ble_eq_true rfl) dL_law_878 e2 ?_
  refine l_same F 1034 dL_law_881 (by decide) ?_
  exact hnext hx1 hm1 hR1
set_option maxRecDepth 20000 in
set_option maxHeartbeats 4000000 in
theorem lc_kind {z : MC} {gx gm : GC} {A : Nat → Prop} {b L : Nat} {xs : Nat → Int32} {Qs : State → Prop} (F : FL z gx gm A b L xs) (hox : (gL gx)[0]? = some (.inl 7)) (hom : (gL gm)[0]? = some (.inl 8)) {Rel : AH → AH → Prop} (hB : Both Rel) {x3 : Int32} (hi1 : vp_in (x3 + 1) L) (hi2 : vp_in (x3 + 2) L) (hi3 : vp_in (x3 + 3) L) (hi4 : vp_in (x3 + 4) L) (hi5 : vp_in (x3 + 5) L) (hnext : ∀ hx hm, Rel hx hm → Lw z gx gm A Qs 1034 [(0, .ref b), (1, .ref (gad gx 0)), (2, .ref (gad gm 0)), (3, .int x3)] [] hx hm) {hx hm : AH} (hR : Rel hx hm) : Lw z gx gm A Qs 886 [(0, .ref b), (1, .ref (gad gx 0)), (2, .ref (gad gm 0)), (3, .int x3)] [] hx hm := by
  obtain ⟨r, hx1, hm1, e1, e2, hR1⟩ := (hB.2.2.2.2.2.2.2.2.2.2.2.2.2.2.2.2.2.2.2.2.2.2.1) (xs (x3 + 1).toNatClampNeg) hx hm hR
  refine l_aload_n F dL_law_886 rfl 1 rfl ?_
  refine l_aload_n F dL_law_887 rfl 0 rfl ?_
  refine l_iload_n F dL_law_888 rfl 3 rfl ?_
  refine l_iconst F (v := 1) dL_law_889 (by decide) ?_
  refine l_iadd F dL_law_890 ?_
  refine l_sld F hi1 dL_law_891 ?_
  refine l_callX (f := fun h => f_X7_kind 0 (xs (x3 + 1).toNatClampNeg) h) (As := [.int (xs (x3 + 1).toNatClampNeg)]) F yv_X7_kind (ct_X7_kind z.2.1 gx hox (xs (x3 + 1).toNatClampNeg)) (by decide) m827 hox rfl rfl rfl (Nat.le_of_ble_eq_true rfl) dL_law_892 e1 ?_
  refine l_aload_n F dL_law_895 rfl 2 rfl ?_
  refine l_aload_n F dL_law_896 rfl 0 rfl ?_
  refine l_iload_n F dL_law_897 rfl 3 rfl ?_
  refine l_iconst F (v := 1) dL_law_898 (by decide) ?_
  refine l_iadd F dL_law_899 ?_
  refine l_sld F hi1 dL_law_900 ?_
  refine l_callM (f := fun h => f_X8_kind 0 (xs (x3 + 1).toNatClampNeg) h) (As := [.int (xs (x3 + 1).toNatClampNeg)]) F yv_X8_kind (ct_X8_kind z.2.1 gm hom (xs (x3 + 1).toNatClampNeg)) (by decide) m1288 hom rfl rfl rfl (Nat.le_of_ble_eq_true rfl) dL_law_901 e2 ?_
  refine l_same F 1034 dL_law_904 (by decide) ?_
  exact hnext hx1 hm1 hR1
set_option maxRecDepth 20000 in
set_option maxHeartbeats 4000000 in
theorem lc_as {z : MC} {gx gm : GC} {A : Nat → Prop} {b L : Nat} {xs : Nat → Int32} {Qs : State → Prop} (F : FL z gx gm A b L xs) (hox : (gL gx)[0]? = some (.inl 7)) (hom : (gL gm)[0]? = some (.inl 8)) {Rel : AH → AH → Prop} (hB : Both Rel) {x3 : Int32} (hi1 : vp_in (x3 + 1) L) (hi2 : vp_in (x3 + 2) L) (hi3 : vp_in (x3 + 3) L) (hi4 : vp_in (x3 + 4) L) (hi5 : vp_in (x3 + 5) L) (hnext : ∀ hx hm, Rel hx hm → Lw z gx gm A Qs 1034 [(0, .ref b), (1, .ref (gad gx 0)), (2, .ref (gad gm 0)), (3, .int x3)] [] hx hm) {hx hm : AH} (hR : Rel hx hm) : Lw z gx gm A Qs 909 [(0, .ref b), (1, .ref (gad gx 0)), (2, .ref (gad gm 0)), (3, .int x3)] [] hx hm := by
  obtain ⟨r, hx1, hm1, e1, e2, hR1⟩ := (hB.2.2.2.2.2.2.2.2.2.2.2.2.2.2.2.2.2.2.2.2.2.2.2.1) (xs (x3 + 1).toNatClampNeg) (xs (x3 + 2).toNatClampNeg) hx hm hR
  refine l_aload_n F dL_law_909 rfl 1 rfl ?_
  refine l_aload_n F dL_law_910 rfl 0 rfl ?_
  refine l_iload_n F dL_law_911 rfl 3 rfl ?_
  refine l_iconst F (v := 1) dL_law_912 (by decide) ?_
  refine l_iadd F dL_law_913 ?_
  refine l_sld F hi1 dL_law_914 ?_
  refine l_aload_n F dL_law_915 rfl 0 rfl ?_
  refine l_iload_n F dL_law_916 rfl 3 rfl ?_
  refine l_iconst F (v := 2) dL_law_917 (by decide) ?_
  refine l_iadd F dL_law_918 ?_
  refine l_sld F hi2 dL_law_919 ?_
  refine l_callX (f := fun h => f_X7_as 0 (xs (x3 + 1).toNatClampNeg) (xs (x3 + 2).toNatClampNeg) h) (As := [.int (xs (x3 + 1).toNatClampNeg), .int (xs (x3 + 2).toNatClampNeg)]) F yv_X7_as (ct_X7_as z.2.1 gx hox (xs (x3 + 1).toNatClampNeg) (xs (x3 + 2).toNatClampNeg)) (by decide) m831 hox rfl rfl rfl (Nat.le_of_ble_eq_true rfl) dL_law_920 e1 ?_
  refine l_aload_n F dL_law_923 rfl 2 rfl ?_
  refine l_aload_n F dL_law_924 rfl 0 rfl ?_
  refine l_iload_n F dL_law_925 rfl 3 rfl ?_
  refine l_iconst F (v := 1) dL_law_926 (by decide) ?_
  refine l_iadd F dL_law_927 ?_
  refine l_sld F hi1 dL_law_928 ?_
  refine l_aload_n F dL_law_929 rfl 0 rfl ?_
  refine l_iload_n F dL_law_930 rfl 3 rfl ?_
  refine l_iconst F (v := 2) dL_law_931 (by decide) ?_
  refine l_iadd F dL_law_932 ?_
  refine l_sld F hi2 dL_law_933 ?_
  refine l_callM (f := fun h => f_X8_as 0 (xs (x3 + 1).toNatClampNeg) (xs (x3 + 2).toNatClampNeg) h) (As := [.int (xs (x3 + 1).toNatClampNeg), .int (xs (x3 + 2).toNatClampNeg)]) F yv_X8_as (ct_X8_as z.2.1 gm hom (xs (x3 + 1).toNatClampNeg) (xs (x3 + 2).toNatClampNeg)) (by decide) m1292 hom rfl rfl rfl (Nat.le_of_ble_eq_true rfl) dL_law_934 e2 ?_
  refine l_same F 1034 dL_law_937 (by decide) ?_
  exact hnext hx1 hm1 hR1
set_option maxRecDepth 20000 in
set_option maxHeartbeats 4000000 in
theorem lc_ask {z : MC} {gx gm : GC} {A : Nat → Prop} {b L : Nat} {xs : Nat → Int32} {Qs : State → Prop} (F : FL z gx gm A b L xs) (hox : (gL gx)[0]? = some (.inl 7)) (hom : (gL gm)[0]? = some (.inl 8)) {Rel : AH → AH → Prop} (hB : Both Rel) {x3 : Int32} (hi1 : vp_in (x3 + 1) L) (hi2 : vp_in (x3 + 2) L) (hi3 : vp_in (x3 + 3) L) (hi4 : vp_in (x3 + 4) L) (hi5 : vp_in (x3 + 5) L) (hnext : ∀ hx hm, Rel hx hm → Lw z gx gm A Qs 1034 [(0, .ref b), (1, .ref (gad gx 0)), (2, .ref (gad gm 0)), (3, .int x3)] [] hx hm) {hx hm : AH} (hR : Rel hx hm) : Lw z gx gm A Qs 942 [(0, .ref b), (1, .ref (gad gx 0)), (2, .ref (gad gm 0)), (3, .int x3)] [] hx hm := by
  obtain ⟨r, hx1, hm1, e1, e2, hR1⟩ := (hB.2.2.2.2.2.2.2.2.2.2.2.2.2.2.2.2.2.2.2.2.2.2.2.2.1) (xs (x3 + 1).toNatClampNeg) (xs (x3 + 2).toNatClampNeg) hx hm hR
  refine l_aload_n F dL_law_942 rfl 1 rfl ?_
  refine l_aload_n F dL_law_943 rfl 0 rfl ?_
  refine l_iload_n F dL_law_944 rfl 3 rfl ?_
  refine l_iconst F (v := 1) dL_law_945 (by decide) ?_
  refine l_iadd F dL_law_946 ?_
  refine l_sld F hi1 dL_law_947 ?_
  refine l_aload_n F dL_law_948 rfl 0 rfl ?_
  refine l_iload_n F dL_law_949 rfl 3 rfl ?_
  refine l_iconst F (v := 2) dL_law_950 (by decide) ?_
  refine l_iadd F dL_law_951 ?_
  refine l_sld F hi2 dL_law_952 ?_
  refine l_callX (f := fun h => f_X7_ask 0 (xs (x3 + 1).toNatClampNeg) (xs (x3 + 2).toNatClampNeg) h) (As := [.int (xs (x3 + 1).toNatClampNeg), .int (xs (x3 + 2).toNatClampNeg)]) F yv_X7_ask (ct_X7_ask z.2.1 gx hox (xs (x3 + 1).toNatClampNeg) (xs (x3 + 2).toNatClampNeg)) (by decide) m840 hox rfl rfl rfl (Nat.le_of_ble_eq_true rfl) dL_law_953 e1 ?_
  refine l_aload_n F dL_law_956 rfl 2 rfl ?_
  refine l_aload_n F dL_law_957 rfl 0 rfl ?_
  refine l_iload_n F dL_law_958 rfl 3 rfl ?_
  refine l_iconst F (v := 1) dL_law_959 (by decide) ?_
  refine l_iadd F dL_law_960 ?_
  refine l_sld F hi1 dL_law_961 ?_
  refine l_aload_n F dL_law_962 rfl 0 rfl ?_
  refine l_iload_n F dL_law_963 rfl 3 rfl ?_
  refine l_iconst F (v := 2) dL_law_964 (by decide) ?_
  refine l_iadd F dL_law_965 ?_
  refine l_sld F hi2 dL_law_966 ?_
  refine l_callM (f := fun h => f_X8_ask 0 (xs (x3 + 1).toNatClampNeg) (xs (x3 + 2).toNatClampNeg) h) (As := [.int (xs (x3 + 1).toNatClampNeg), .int (xs (x3 + 2).toNatClampNeg)]) F yv_X8_ask (ct_X8_ask z.2.1 gm hom (xs (x3 + 1).toNatClampNeg) (xs (x3 + 2).toNatClampNeg)) (by decide) m1300 hom rfl rfl rfl (Nat.le_of_ble_eq_true rfl) dL_law_967 e2 ?_
  refine l_same F 1034 dL_law_970 (by decide) ?_
  exact hnext hx1 hm1 hR1
set_option maxRecDepth 20000 in
set_option maxHeartbeats 4000000 in
theorem lc_trace {z : MC} {gx gm : GC} {A : Nat → Prop} {b L : Nat} {xs : Nat → Int32} {Qs : State → Prop} (F : FL z gx gm A b L xs) (hox : (gL gx)[0]? = some (.inl 7)) (hom : (gL gm)[0]? = some (.inl 8)) {Rel : AH → AH → Prop} (hB : Both Rel) {x3 : Int32} (hi1 : vp_in (x3 + 1) L) (hi2 : vp_in (x3 + 2) L) (hi3 : vp_in (x3 + 3) L) (hi4 : vp_in (x3 + 4) L) (hi5 : vp_in (x3 + 5) L) (hnext : ∀ hx hm, Rel hx hm → Lw z gx gm A Qs 1034 [(0, .ref b), (1, .ref (gad gx 0)), (2, .ref (gad gm 0)), (3, .int x3)] [] hx hm) {hx hm : AH} (hR : Rel hx hm) : Lw z gx gm A Qs 975 [(0, .ref b), (1, .ref (gad gx 0)), (2, .ref (gad gm 0)), (3, .int x3)] [] hx hm := by
  obtain ⟨r, hx1, hm1, e1, e2, hR1⟩ := (hB.2.2.2.2.2.2.2.2.2.2.2.2.2.2.2.2.2.2.2.2.2.2.2.2.2.1) (xs (x3 + 1).toNatClampNeg) hx hm hR
  refine l_aload_n F dL_law_975 rfl 1 rfl ?_
  refine l_aload_n F dL_law_976 rfl 0 rfl ?_
  refine l_iload_n F dL_law_977 rfl 3 rfl ?_
  refine l_iconst F (v := 1) dL_law_978 (by decide) ?_
  refine l_iadd F dL_law_979 ?_
  refine l_sld F hi1 dL_law_980 ?_
  refine l_callX (f := fun h => f_X7_trace 0 (xs (x3 + 1).toNatClampNeg) h) (As := [.int (xs (x3 + 1).toNatClampNeg)]) F yv_X7_trace (ct_X7_trace z.2.1 gx hox (xs (x3 + 1).toNatClampNeg)) (by decide) m864 hox rfl rfl rfl (Nat.le_of_ble_eq_true rfl) dL_law_981 e1 ?_
  refine l_aload_n F dL_law_984 rfl 2 rfl ?_
  refine l_aload_n F dL_law_985 rfl 0 rfl ?_
  refine l_iload_n F dL_law_986 rfl 3 rfl ?_
  refine l_iconst F (v := 1) dL_law_987 (by decide) ?_
  refine l_iadd F dL_law_988 ?_
  refine l_sld F hi1 dL_law_989 ?_
  refine l_callM (f := fun h => f_X8_trace 0 (xs (x3 + 1).toNatClampNeg) h) (As := [.int (xs (x3 + 1).toNatClampNeg)]) F yv_X8_trace (ct_X8_trace z.2.1 gm hom (xs (x3 + 1).toNatClampNeg)) (by decide) m1324 hom rfl rfl rfl (Nat.le_of_ble_eq_true rfl) dL_law_990 e2 ?_
  refine l_same F 1034 dL_law_993 (by decide) ?_
  exact hnext hx1 hm1 hR1
set_option maxRecDepth 20000 in
set_option maxHeartbeats 4000000 in
theorem lc_count {z : MC} {gx gm : GC} {A : Nat → Prop} {b L : Nat} {xs : Nat → Int32} {Qs : State → Prop} (F : FL z gx gm A b L xs) (hox : (gL gx)[0]? = some (.inl 7)) (hom : (gL gm)[0]? = some (.inl 8)) {Rel : AH → AH → Prop} (hB : Both Rel) {x3 : Int32} (hi1 : vp_in (x3 + 1) L) (hi2 : vp_in (x3 + 2) L) (hi3 : vp_in (x3 + 3) L) (hi4 : vp_in (x3 + 4) L) (hi5 : vp_in (x3 + 5) L) (hnext : ∀ hx hm, Rel hx hm → Lw z gx gm A Qs 1034 [(0, .ref b), (1, .ref (gad gx 0)), (2, .ref (gad gm 0)), (3, .int x3)] [] hx hm) {hx hm : AH} (hR : Rel hx hm) : Lw z gx gm A Qs 998 [(0, .ref b), (1, .ref (gad gx 0)), (2, .ref (gad gm 0)), (3, .int x3)] [] hx hm := by
  obtain ⟨r, hx1, hm1, e1, e2, hR1⟩ := (hB.2.2.2.2.2.2.2.2.2.2.2.2.2.2.2.2.2.2.2.2.2.2.2.2.2.2.1) (xs (x3 + 1).toNatClampNeg) hx hm hR
  refine l_aload_n F dL_law_998 rfl 1 rfl ?_
  refine l_aload_n F dL_law_999 rfl 0 rfl ?_
  refine l_iload_n F dL_law_1000 rfl 3 rfl ?_
  refine l_iconst F (v := 1) dL_law_1001 (by decide) ?_
  refine l_iadd F dL_law_1002 ?_
  refine l_sld F hi1 dL_law_1003 ?_
  refine l_callX (f := fun h => f_X7_count 0 (xs (x3 + 1).toNatClampNeg) h) (As := [.int (xs (x3 + 1).toNatClampNeg)]) F yv_X7_count (ct_X7_count z.2.1 gx hox (xs (x3 + 1).toNatClampNeg)) (by decide) m873 hox rfl rfl rfl (Nat.le_of_ble_eq_true rfl) dL_law_1004 e1 ?_
  refine l_aload_n F dL_law_1007 rfl 2 rfl ?_
  refine l_aload_n F dL_law_1008 rfl 0 rfl ?_
  refine l_iload_n F dL_law_1009 rfl 3 rfl ?_
  refine l_iconst F (v := 1) dL_law_1010 (by decide) ?_
  refine l_iadd F dL_law_1011 ?_
  refine l_sld F hi1 dL_law_1012 ?_
  refine l_callM (f := fun h => f_X8_count 0 (xs (x3 + 1).toNatClampNeg) h) (As := [.int (xs (x3 + 1).toNatClampNeg)]) F yv_X8_count (ct_X8_count z.2.1 gm hom (xs (x3 + 1).toNatClampNeg)) (by decide) m1328 hom rfl rfl rfl (Nat.le_of_ble_eq_true rfl) dL_law_1013 e2 ?_
  refine l_same F 1034 dL_law_1016 (by decide) ?_
  exact hnext hx1 hm1 hR1
set_option maxRecDepth 20000 in
set_option maxHeartbeats 4000000 in
theorem lc_status {z : MC} {gx gm : GC} {A : Nat → Prop} {b L : Nat} {xs : Nat → Int32} {Qs : State → Prop} (F : FL z gx gm A b L xs) (hox : (gL gx)[0]? = some (.inl 7)) (hom : (gL gm)[0]? = some (.inl 8)) {Rel : AH → AH → Prop} (hB : Both Rel) {x3 : Int32} (hi1 : vp_in (x3 + 1) L) (hi2 : vp_in (x3 + 2) L) (hi3 : vp_in (x3 + 3) L) (hi4 : vp_in (x3 + 4) L) (hi5 : vp_in (x3 + 5) L) (hnext : ∀ hx hm, Rel hx hm → Lw z gx gm A Qs 1034 [(0, .ref b), (1, .ref (gad gx 0)), (2, .ref (gad gm 0)), (3, .int x3)] [] hx hm) {hx hm : AH} (hR : Rel hx hm) : Lw z gx gm A Qs 1021 [(0, .ref b), (1, .ref (gad gx 0)), (2, .ref (gad gm 0)), (3, .int x3)] [] hx hm := by
  obtain ⟨r, hx1, hm1, e1, e2, hR1⟩ := (hB.2.2.2.2.2.2.2.2.2.2.2.2.2.2.2.2.2.2.2.2.2.2.2.2.2.2.2) hx hm hR
  refine l_aload_n F dL_law_1021 rfl 1 rfl ?_
  refine l_callX (f := fun h => f_X7_status 0  h) (As := []) F yv_X7_status (ct_X7_status z.2.1 gx hox ) (by decide) m883 hox rfl rfl rfl (Nat.le_of_ble_eq_true rfl) dL_law_1022 e1 ?_
  refine l_aload_n F dL_law_1025 rfl 2 rfl ?_
  refine l_callM (f := fun h => f_X8_status 0  h) (As := []) F yv_X8_status (ct_X8_status z.2.1 gm hom ) (by decide) m1332 hom rfl rfl rfl (Nat.le_of_ble_eq_true rfl) dL_law_1026 e2 ?_
  refine l_same F 1034 dL_law_1029 (by decide) ?_
  exact hnext hx1 hm1 hR1
set_option maxRecDepth 20000 in
set_option maxHeartbeats 4000000 in
theorem lc_switch {z : MC} {gx gm : GC} {A : Nat → Prop} {b L : Nat} {xs : Nat → Int32} {Qs : State → Prop} (F : FL z gx gm A b L xs) (hox : (gL gx)[0]? = some (.inl 7)) (hom : (gL gm)[0]? = some (.inl 8)) {Rel : AH → AH → Prop} (hB : Both Rel) {x3 : Int32} (hi1 : vp_in (x3 + 1) L) (hi2 : vp_in (x3 + 2) L) (hi3 : vp_in (x3 + 3) L) (hi4 : vp_in (x3 + 4) L) (hi5 : vp_in (x3 + 5) L) (hnext : ∀ hx hm, Rel hx hm → Lw z gx gm A Qs 1034 [(0, .ref b), (1, .ref (gad gx 0)), (2, .ref (gad gm 0)), (3, .int x3)] [] hx hm) {hx hm : AH} (hR : Rel hx hm) (y : Int32) : Lw z gx gm A Qs 33 [(0, .ref b), (1, .ref (gad gx 0)), (2, .ref (gad gm 0)), (3, .int x3)] [.int y] hx hm := by
  refine l_case 0 ?_ (fun n0 => ?_)
  · refine l_tabIn F (off := 127) 160 dL_law_33 (by decide) (by decide) rfl (by decide) ?_
    exact lc_row F hox hom hB hi1 hi2 hi3 hi4 hi5 hnext hR
  refine l_case 1 ?_ (fun n1 => ?_)
  · refine l_tabIn F (off := 170) 203 dL_law_33 (by decide) (by decide) rfl (by decide) ?_
    exact lc_set F hox hom hB hi1 hi2 hi3 hi4 hi5 hnext hR
  refine l_case 2 ?_ (fun n2 => ?_)
  · refine l_tabIn F (off := 213) 246 dL_law_33 (by decide) (by decide) rfl (by decide) ?_
    exact lc_copy F hox hom hB hi1 hi2 hi3 hi4 hi5 hnext hR
  refine l_case 3 ?_ (fun n3 => ?_)
  · refine l_tabIn F (off := 276) 309 dL_law_33 (by decide) (by decide) rfl (by decide) ?_
    exact lc_drop F hox hom hB hi1 hi2 hi3 hi4 hi5 hnext hR
  refine l_case 4 ?_ (fun n4 => ?_)
  · refine l_tabIn F (off := 299) 332 dL_law_33 (by decide) (by decide) rfl (by decide) ?_
    exact lc_feed F hox hom hB hi1 hi2 hi3 hi4 hi5 hnext hR
  refine l_case 5 ?_ (fun n5 => ?_)
  · refine l_tabIn F (off := 362) 395 dL_law_33 (by decide) (by decide) rfl (by decide) ?_
    exact lc_bridge F hox hom hB hi1 hi2 hi3 hi4 hi5 hnext hR
  refine l_case 6 ?_ (fun n6 => ?_)
  · refine l_tabIn F (off := 375) 408 dL_law_33 (by decide) (by decide) rfl (by decide) ?_
    exact lc_fault F hox hom hB hi1 hi2 hi3 hi4 hi5 hnext hR
  refine l_case 7 ?_ (fun n7 => ?_)
  · refine l_tabIn F (off := 388) 421 dL_law_33 (by decide) (by decide) rfl (by decide) ?_
    exact lc_lend F hox hom hB hi1 hi2 hi3 hi4 hi5 hnext hR
  refine l_case 8 ?_ (fun n8 => ?_)
  · refine l_tabIn F (off := 431) 464 dL_law_33 (by decide) (by decide) rfl (by decide) ?_
    exact lc_shut F hox hom hB hi1 hi2 hi3 hi4 hi5 hnext hR
  refine l_case 9 ?_ (fun n9 => ?_)
  · refine l_tabIn F (off := 464) 497 dL_law_33 (by decide) (by decide) rfl (by decide) ?_
    exact lc_pass F hox hom hB hi1 hi2 hi3 hi4 hi5 hnext hR
  refine l_case 10 ?_ (fun n10 => ?_)
  · refine l_tabIn F (off := 497) 530 dL_law_33 (by decide) (by decide) rfl (by decide) ?_
    exact lc_split F hox hom hB hi1 hi2 hi3 hi4 hi5 hnext hR
  refine l_case 11 ?_ (fun n11 => ?_)
  · refine l_tabIn F (off := 530) 563 dL_law_33 (by decide) (by decide) rfl (by decide) ?_
    exact lc_hour F hox hom hB hi1 hi2 hi3 hi4 hi5 hnext hR
  refine l_case 12 ?_ (fun n12 => ?_)
  · refine l_tabIn F (off := 543) 576 dL_law_33 (by decide) (by decide) rfl (by decide) ?_
    exact lc_undo F hox hom hB hi1 hi2 hi3 hi4 hi5 hnext hR
  refine l_case 13 ?_ (fun n13 => ?_)
  · refine l_tabIn F (off := 556) 589 dL_law_33 (by decide) (by decide) rfl (by decide) ?_
    exact lc_arch F hox hom hB hi1 hi2 hi3 hi4 hi5 hnext hR
  refine l_case 14 ?_ (fun n14 => ?_)
  · refine l_tabIn F (off := 589) 622 dL_law_33 (by decide) (by decide) rfl (by decide) ?_
    exact lc_boat F hox hom hB hi1 hi2 hi3 hi4 hi5 hnext hR
  refine l_case 15 ?_ (fun n15 => ?_)
  · refine l_tabIn F (off := 622) 655 dL_law_33 (by decide) (by decide) rfl (by decide) ?_
    exact lc_may F hox hom hB hi1 hi2 hi3 hi4 hi5 hnext hR
  refine l_case 16 ?_ (fun n16 => ?_)
  · refine l_tabIn F (off := 655) 688 dL_law_33 (by decide) (by decide) rfl (by decide) ?_
    exact lc_most F hox hom hB hi1 hi2 hi3 hi4 hi5 hnext hR
  refine l_case 17 ?_ (fun n17 => ?_)
  · refine l_tabIn F (off := 698) 731 dL_law_33 (by decide) (by decide) rfl (by decide) ?_
    exact lc_anew F hox hom hB hi1 hi2 hi3 hi4 hi5 hnext hR
  refine l_case 18 ?_ (fun n18 => ?_)
  · refine l_tabIn F (off := 741) 774 dL_law_33 (by decide) (by decide) rfl (by decide) ?_
    exact lc_cut F hox hom hB hi1 hi2 hi3 hi4 hi5 hnext hR
  refine l_case 19 ?_ (fun n19 => ?_)
  · refine l_tabIn F (off := 774) 807 dL_law_33 (by decide) (by decide) rfl (by decide) ?_
    exact lc_weighed F hox hom hB hi1 hi2 hi3 hi4 hi5 hnext hR
  refine l_case 20 ?_ (fun n20 => ?_)
  · refine l_tabIn F (off := 807) 840 dL_law_33 (by decide) (by decide) rfl (by decide) ?_
    exact lc_image F hox hom hB hi1 hi2 hi3 hi4 hi5 hnext hR
  refine l_case 21 ?_ (fun n21 => ?_)
  · refine l_tabIn F (off := 830) 863 dL_law_33 (by decide) (by decide) rfl (by decide) ?_
    exact lc_restore F hox hom hB hi1 hi2 hi3 hi4 hi5 hnext hR
  refine l_case 22 ?_ (fun n22 => ?_)
  · refine l_tabIn F (off := 853) 886 dL_law_33 (by decide) (by decide) rfl (by decide) ?_
    exact lc_kind F hox hom hB hi1 hi2 hi3 hi4 hi5 hnext hR
  refine l_case 23 ?_ (fun n23 => ?_)
  · refine l_tabIn F (off := 876) 909 dL_law_33 (by decide) (by decide) rfl (by decide) ?_
    exact lc_as F hox hom hB hi1 hi2 hi3 hi4 hi5 hnext hR
  refine l_case 24 ?_ (fun n24 => ?_)
  · refine l_tabIn F (off := 909) 942 dL_law_33 (by decide) (by decide) rfl (by decide) ?_
    exact lc_ask F hox hom hB hi1 hi2 hi3 hi4 hi5 hnext hR
  refine l_case 25 ?_ (fun n25 => ?_)
  · refine l_tabIn F (off := 942) 975 dL_law_33 (by decide) (by decide) rfl (by decide) ?_
    exact lc_trace F hox hom hB hi1 hi2 hi3 hi4 hi5 hnext hR
  refine l_case 26 ?_ (fun n26 => ?_)
  · refine l_tabIn F (off := 965) 998 dL_law_33 (by decide) (by decide) rfl (by decide) ?_
    exact lc_count F hox hom hB hi1 hi2 hi3 hi4 hi5 hnext hR
  refine l_case 27 ?_ (fun n27 => ?_)
  · refine l_tabIn F (off := 988) 1021 dL_law_33 (by decide) (by decide) rfl (by decide) ?_
    exact lc_status F hox hom hB hi1 hi2 hi3 hi4 hi5 hnext hR
  refine l_tabOut F 1034 dL_law_33 (by decide) (s_out 0 27 28 (by decide) (by decide) (by decide) (fun j hj => ?_)) ?_
  · rcases (show j = 0 ∨ j = 1 ∨ j = 2 ∨ j = 3 ∨ j = 4 ∨ j = 5 ∨ j = 6 ∨ j = 7 ∨ j = 8 ∨ j = 9 ∨ j = 10 ∨ j = 11 ∨ j = 12 ∨ j = 13 ∨ j = 14 ∨ j = 15 ∨ j = 16 ∨ j = 17 ∨ j = 18 ∨ j = 19 ∨ j = 20 ∨ j = 21 ∨ j = 22 ∨ j = 23 ∨ j = 24 ∨ j = 25 ∨ j = 26 ∨ j = 27 by omega) with rfl | rfl | rfl | rfl | rfl | rfl | rfl | rfl | rfl | rfl | rfl | rfl | rfl | rfl | rfl | rfl | rfl | rfl | rfl | rfl | rfl | rfl | rfl | rfl | rfl | rfl | rfl | rfl
    · exact n0
    · exact n1
    · exact n2
    · exact n3
    · exact n4
    · exact n5
    · exact n6
    · exact n7
    · exact n8
    · exact n9
    · exact n10
    · exact n11
    · exact n12
    · exact n13
    · exact n14
    · exact n15
    · exact n16
    · exact n17
    · exact n18
    · exact n19
    · exact n20
    · exact n21
    · exact n22
    · exact n23
    · exact n24
    · exact n25
    · exact n26
    · exact n27
  exact hnext hx hm hR
