/-! THE LAW: its calls -/
theorem hyW_X7_row : yX7_row.cls = RX7 ∧ yX7_row.cls ≠ "java/lang/invoke/MethodHandle" ∧ yX7_row.cls ≠ "java/lang/invoke/VarHandle" ∧ (parseMethodDescriptor yX7_row.desc).map (fun d => d.parameters.length) = some 3 := by decide +kernel
theorem hyW_X8_row : yX8_row.cls = RX8 ∧ yX8_row.cls ≠ "java/lang/invoke/MethodHandle" ∧ yX8_row.cls ≠ "java/lang/invoke/VarHandle" ∧ (parseMethodDescriptor yX8_row.desc).map (fun d => d.parameters.length) = some 3 := by decide +kernel
set_option maxHeartbeats 4000000 in
set_option maxRecDepth 100000 in
theorem law_0 {p : Program} {l : Launch} {e : Env} {s : State} {m : MethodId} {below : List Frame} {meth : Method} {c : Code} {b L : Nat} {xs : Nat → Int32} {G : Gg} (hL : L ≤ 3072) (C : LC p s m meth c b L xs G) {i : Nat} (hi : i + 6 ≤ L) {M : Mm} (hI : Inv M) (kk : ∀ M3, Inv M3 → LB p l e s m below meth c b G 1219 i M3) : LB p l e s m below meth c b G 180 i M := by
  intro H locs ls hP hD hS hl
  obtain ⟨hx, hb, hr, hml, hown, hts, hX, hbl, hlocks, hgv⟩ := C.1
  have hbA : ¬ LA s b := Nat.not_le.mpr hbl
  refine lv_aload_n hx hb dL_law_180 rfl (lv_at hl 1 rfl) ?_
  refine lv_aload_n hx hb dL_law_181 rfl (lv_at hl 0 rfl) ?_
  refine lv_iload_n hx hb dL_law_182 rfl (lv_at hl 3 rfl) ?_
  refine lv_iconst (v := 1) hx hb dL_law_183 (by decide) ?_
  refine lv_iadd hx hb dL_law_184 ?_
  rw [show nI i + (1 : Int32) = nI (i + 1) from by rw [li_1, nI_add]]
  refine va_sld hx hb hX hbl hbA hS (sc_in hL (by decide) hi) dL_law_185 ?_
  refine lv_aload_n hx hb dL_law_186 rfl (lv_at hl 0 rfl) ?_
  refine lv_iload_n hx hb dL_law_187 rfl (lv_at hl 3 rfl) ?_
  refine lv_iconst (v := 2) hx hb dL_law_188 (by decide) ?_
  refine lv_iadd hx hb dL_law_189 ?_
  rw [show nI i + (2 : Int32) = nI (i + 2) from by rw [li_2, nI_add]]
  refine va_sld hx hb hX hbl hbA hS (sc_in hL (by decide) hi) dL_law_190 ?_
  refine lv_aload_n hx hb dL_law_191 rfl (lv_at hl 0 rfl) ?_
  refine lv_iload_n hx hb dL_law_192 rfl (lv_at hl 3 rfl) ?_
  refine lv_iconst (v := 3) hx hb dL_law_193 (by decide) ?_
  refine lv_iadd hx hb dL_law_194 ?_
  rw [show nI i + (3 : Int32) = nI (i + 3) from by rw [li_3, nI_add]]
  refine va_sld hx hb hX hbl hbA hS (sc_in hL (by decide) hi) dL_law_195 ?_
  refine law_call C 0 [.int (xs (nI (i + 1)).toNatClampNeg), .int (xs (nI (i + 2)).toNatClampNeg), .int (xs (nI (i + 3)).toNatClampNeg)] [] rfl dL_law_196 gW_X7_row rfl hyW_X7_row (by decide) (by decide) TX7 11 rfl (by decide) (Nat.le_of_ble_eq_true rfl) rfl hP hD hS hl.1 (L_row (xs (nI (i + 1)).toNatClampNeg) (xs (nI (i + 2)).toNatClampNeg) (xs (nI (i + 3)).toNatClampNeg) M hI) (fun r1 M1 H locs h1 hP hD hS => ?_)
  refine lv_aload_n hx hb dL_law_199 rfl (lv_at hl 2 rfl) ?_
  refine lv_aload_n hx hb dL_law_200 rfl (lv_at hl 0 rfl) ?_
  refine lv_iload_n hx hb dL_law_201 rfl (lv_at hl 3 rfl) ?_
  refine lv_iconst (v := 1) hx hb dL_law_202 (by decide) ?_
  refine lv_iadd hx hb dL_law_203 ?_
  rw [show nI i + (1 : Int32) = nI (i + 1) from by rw [li_1, nI_add]]
  refine va_sld hx hb hX hbl hbA hS (sc_in hL (by decide) hi) dL_law_204 ?_
  refine lv_aload_n hx hb dL_law_205 rfl (lv_at hl 0 rfl) ?_
  refine lv_iload_n hx hb dL_law_206 rfl (lv_at hl 3 rfl) ?_
  refine lv_iconst (v := 2) hx hb dL_law_207 (by decide) ?_
  refine lv_iadd hx hb dL_law_208 ?_
  rw [show nI i + (2 : Int32) = nI (i + 2) from by rw [li_2, nI_add]]
  refine va_sld hx hb hX hbl hbA hS (sc_in hL (by decide) hi) dL_law_209 ?_
  refine lv_aload_n hx hb dL_law_210 rfl (lv_at hl 0 rfl) ?_
  refine lv_iload_n hx hb dL_law_211 rfl (lv_at hl 3 rfl) ?_
  refine lv_iconst (v := 3) hx hb dL_law_212 (by decide) ?_
  refine lv_iadd hx hb dL_law_213 ?_
  rw [show nI i + (3 : Int32) = nI (i + 3) from by rw [li_3, nI_add]]
  refine va_sld hx hb hX hbl hbA hS (sc_in hL (by decide) hi) dL_law_214 ?_
  refine law_call C 49 [.int (xs (nI (i + 1)).toNatClampNeg), .int (xs (nI (i + 2)).toNatClampNeg), .int (xs (nI (i + 3)).toNatClampNeg)] [.int r1] rfl dL_law_215 gW_X8_row rfl hyW_X8_row (by decide) (by decide) TX8 23 rfl (by decide) (Nat.le_of_ble_eq_true rfl) rfl hP hD hS hl.1 h1 (fun r2 M2 H locs h2 hP hD hS => ?_)
  exact lv_icmp_eq (tgt := 1219) hx hb dL_law_218 (by decide) (fun _ => kk M2 h2.2 H locs ls hP hD hS hl) (fun c9 => absurd h2.1 c9)
theorem hyW_X7_set : yX7_set.cls = RX7 ∧ yX7_set.cls ≠ "java/lang/invoke/MethodHandle" ∧ yX7_set.cls ≠ "java/lang/invoke/VarHandle" ∧ (parseMethodDescriptor yX7_set.desc).map (fun d => d.parameters.length) = some 3 := by decide +kernel
theorem hyW_X8_set : yX8_set.cls = RX8 ∧ yX8_set.cls ≠ "java/lang/invoke/MethodHandle" ∧ yX8_set.cls ≠ "java/lang/invoke/VarHandle" ∧ (parseMethodDescriptor yX8_set.desc).map (fun d => d.parameters.length) = some 3 := by decide +kernel
set_option maxHeartbeats 4000000 in
set_option maxRecDepth 100000 in
theorem law_1 {p : Program} {l : Launch} {e : Env} {s : State} {m : MethodId} {below : List Frame} {meth : Method} {c : Code} {b L : Nat} {xs : Nat → Int32} {G : Gg} (hL : L ≤ 3072) (C : LC p s m meth c b L xs G) {i : Nat} (hi : i + 6 ≤ L) {M : Mm} (hI : Inv M) (kk : ∀ M3, Inv M3 → LB p l e s m below meth c b G 1219 i M3) : LB p l e s m below meth c b G 223 i M := by
  intro H locs ls hP hD hS hl
  obtain ⟨hx, hb, hr, hml, hown, hts, hX, hbl, hlocks, hgv⟩ := C.1
  have hbA : ¬ LA s b := Nat.not_le.mpr hbl
  refine lv_aload_n hx hb dL_law_223 rfl (lv_at hl 1 rfl) ?_
  refine lv_aload_n hx hb dL_law_224 rfl (lv_at hl 0 rfl) ?_
  refine lv_iload_n hx hb dL_law_225 rfl (lv_at hl 3 rfl) ?_
  refine lv_iconst (v := 1) hx hb dL_law_226 (by decide) ?_
  refine lv_iadd hx hb dL_law_227 ?_
  rw [show nI i + (1 : Int32) = nI (i + 1) from by rw [li_1, nI_add]]
  refine va_sld hx hb hX hbl hbA hS (sc_in hL (by decide) hi) dL_law_228 ?_
  refine lv_aload_n hx hb dL_law_229 rfl (lv_at hl 0 rfl) ?_
  refine lv_iload_n hx hb dL_law_230 rfl (lv_at hl 3 rfl) ?_
  refine lv_iconst (v := 2) hx hb dL_law_231 (by decide) ?_
  refine lv_iadd hx hb dL_law_232 ?_
  rw [show nI i + (2 : Int32) = nI (i + 2) from by rw [li_2, nI_add]]
  refine va_sld hx hb hX hbl hbA hS (sc_in hL (by decide) hi) dL_law_233 ?_
  refine lv_aload_n hx hb dL_law_234 rfl (lv_at hl 0 rfl) ?_
  refine lv_iload_n hx hb dL_law_235 rfl (lv_at hl 3 rfl) ?_
  refine lv_iconst (v := 3) hx hb dL_law_236 (by decide) ?_
  refine lv_iadd hx hb dL_law_237 ?_
  rw [show nI i + (3 : Int32) = nI (i + 3) from by rw [li_3, nI_add]]
  refine va_sld hx hb hX hbl hbA hS (sc_in hL (by decide) hi) dL_law_238 ?_
  refine law_call C 0 [.int (xs (nI (i + 1)).toNatClampNeg), .int (xs (nI (i + 2)).toNatClampNeg), .int (xs (nI (i + 3)).toNatClampNeg)] [] rfl dL_law_239 gW_X7_set rfl hyW_X7_set (by decide) (by decide) TX7 11 rfl (by decide) (Nat.le_of_ble_eq_true rfl) rfl hP hD hS hl.1 (L_set (xs (nI (i + 1)).toNatClampNeg) (xs (nI (i + 2)).toNatClampNeg) (xs (nI (i + 3)).toNatClampNeg) M hI) (fun r1 M1 H locs h1 hP hD hS => ?_)
  refine lv_aload_n hx hb dL_law_242 rfl (lv_at hl 2 rfl) ?_
  refine lv_aload_n hx hb dL_law_243 rfl (lv_at hl 0 rfl) ?_
  refine lv_iload_n hx hb dL_law_244 rfl (lv_at hl 3 rfl) ?_
  refine lv_iconst (v := 1) hx hb dL_law_245 (by decide) ?_
  refine lv_iadd hx hb dL_law_246 ?_
  rw [show nI i + (1 : Int32) = nI (i + 1) from by rw [li_1, nI_add]]
  refine va_sld hx hb hX hbl hbA hS (sc_in hL (by decide) hi) dL_law_247 ?_
  refine lv_aload_n hx hb dL_law_248 rfl (lv_at hl 0 rfl) ?_
  refine lv_iload_n hx hb dL_law_249 rfl (lv_at hl 3 rfl) ?_
  refine lv_iconst (v := 2) hx hb dL_law_250 (by decide) ?_
  refine lv_iadd hx hb dL_law_251 ?_
  rw [show nI i + (2 : Int32) = nI (i + 2) from by rw [li_2, nI_add]]
  refine va_sld hx hb hX hbl hbA hS (sc_in hL (by decide) hi) dL_law_252 ?_
  refine lv_aload_n hx hb dL_law_253 rfl (lv_at hl 0 rfl) ?_
  refine lv_iload_n hx hb dL_law_254 rfl (lv_at hl 3 rfl) ?_
  refine lv_iconst (v := 3) hx hb dL_law_255 (by decide) ?_
  refine lv_iadd hx hb dL_law_256 ?_
  rw [show nI i + (3 : Int32) = nI (i + 3) from by rw [li_3, nI_add]]
  refine va_sld hx hb hX hbl hbA hS (sc_in hL (by decide) hi) dL_law_257 ?_
  refine law_call C 49 [.int (xs (nI (i + 1)).toNatClampNeg), .int (xs (nI (i + 2)).toNatClampNeg), .int (xs (nI (i + 3)).toNatClampNeg)] [.int r1] rfl dL_law_258 gW_X8_set rfl hyW_X8_set (by decide) (by decide) TX8 23 rfl (by decide) (Nat.le_of_ble_eq_true rfl) rfl hP hD hS hl.1 h1 (fun r2 M2 H locs h2 hP hD hS => ?_)
  exact lv_icmp_eq (tgt := 1219) hx hb dL_law_261 (by decide) (fun _ => kk M2 h2.2 H locs ls hP hD hS hl) (fun c9 => absurd h2.1 c9)
theorem hyW_X7_copy : yX7_copy.cls = RX7 ∧ yX7_copy.cls ≠ "java/lang/invoke/MethodHandle" ∧ yX7_copy.cls ≠ "java/lang/invoke/VarHandle" ∧ (parseMethodDescriptor yX7_copy.desc).map (fun d => d.parameters.length) = some 5 := by decide +kernel
theorem hyW_X8_copy : yX8_copy.cls = RX8 ∧ yX8_copy.cls ≠ "java/lang/invoke/MethodHandle" ∧ yX8_copy.cls ≠ "java/lang/invoke/VarHandle" ∧ (parseMethodDescriptor yX8_copy.desc).map (fun d => d.parameters.length) = some 5 := by decide +kernel
set_option maxHeartbeats 4000000 in
set_option maxRecDepth 100000 in
theorem law_2 {p : Program} {l : Launch} {e : Env} {s : State} {m : MethodId} {below : List Frame} {meth : Method} {c : Code} {b L : Nat} {xs : Nat → Int32} {G : Gg} (hL : L ≤ 3072) (C : LC p s m meth c b L xs G) {i : Nat} (hi : i + 6 ≤ L) {M : Mm} (hI : Inv M) (kk : ∀ M3, Inv M3 → LB p l e s m below meth c b G 1219 i M3) : LB p l e s m below meth c b G 266 i M := by
  intro H locs ls hP hD hS hl
  obtain ⟨hx, hb, hr, hml, hown, hts, hX, hbl, hlocks, hgv⟩ := C.1
  have hbA : ¬ LA s b := Nat.not_le.mpr hbl
  refine lv_aload_n hx hb dL_law_266 rfl (lv_at hl 1 rfl) ?_
  refine lv_aload_n hx hb dL_law_267 rfl (lv_at hl 0 rfl) ?_
  refine lv_iload_n hx hb dL_law_268 rfl (lv_at hl 3 rfl) ?_
  refine lv_iconst (v := 1) hx hb dL_law_269 (by decide) ?_
  refine lv_iadd hx hb dL_law_270 ?_
  rw [show nI i + (1 : Int32) = nI (i + 1) from by rw [li_1, nI_add]]
  refine va_sld hx hb hX hbl hbA hS (sc_in hL (by decide) hi) dL_law_271 ?_
  refine lv_aload_n hx hb dL_law_272 rfl (lv_at hl 0 rfl) ?_
  refine lv_iload_n hx hb dL_law_273 rfl (lv_at hl 3 rfl) ?_
  refine lv_iconst (v := 2) hx hb dL_law_274 (by decide) ?_
  refine lv_iadd hx hb dL_law_275 ?_
  rw [show nI i + (2 : Int32) = nI (i + 2) from by rw [li_2, nI_add]]
  refine va_sld hx hb hX hbl hbA hS (sc_in hL (by decide) hi) dL_law_276 ?_
  refine lv_aload_n hx hb dL_law_277 rfl (lv_at hl 0 rfl) ?_
  refine lv_iload_n hx hb dL_law_278 rfl (lv_at hl 3 rfl) ?_
  refine lv_iconst (v := 3) hx hb dL_law_279 (by decide) ?_
  refine lv_iadd hx hb dL_law_280 ?_
  rw [show nI i + (3 : Int32) = nI (i + 3) from by rw [li_3, nI_add]]
  refine va_sld hx hb hX hbl hbA hS (sc_in hL (by decide) hi) dL_law_281 ?_
  refine lv_aload_n hx hb dL_law_282 rfl (lv_at hl 0 rfl) ?_
  refine lv_iload_n hx hb dL_law_283 rfl (lv_at hl 3 rfl) ?_
  refine lv_iconst (v := 4) hx hb dL_law_284 (by decide) ?_
  refine lv_iadd hx hb dL_law_285 ?_
  rw [show nI i + (4 : Int32) = nI (i + 4) from by rw [li_4, nI_add]]
  refine va_sld hx hb hX hbl hbA hS (sc_in hL (by decide) hi) dL_law_286 ?_
  refine lv_aload_n hx hb dL_law_287 rfl (lv_at hl 0 rfl) ?_
  refine lv_iload_n hx hb dL_law_288 rfl (lv_at hl 3 rfl) ?_
  refine lv_iconst (v := 5) hx hb dL_law_289 (by decide) ?_
  refine lv_iadd hx hb dL_law_290 ?_
  rw [show nI i + (5 : Int32) = nI (i + 5) from by rw [li_5, nI_add]]
  refine va_sld hx hb hX hbl hbA hS (sc_in hL (by decide) hi) dL_law_291 ?_
  refine law_call C 0 [.int (xs (nI (i + 1)).toNatClampNeg), .int (xs (nI (i + 2)).toNatClampNeg), .int (xs (nI (i + 3)).toNatClampNeg), .int (xs (nI (i + 4)).toNatClampNeg), .int (xs (nI (i + 5)).toNatClampNeg)] [] rfl dL_law_292 gW_X7_copy rfl hyW_X7_copy (by decide) (by decide) TX7 11 rfl (by decide) (Nat.le_of_ble_eq_true rfl) rfl hP hD hS hl.1 (L_copy (xs (nI (i + 1)).toNatClampNeg) (xs (nI (i + 2)).toNatClampNeg) (xs (nI (i + 3)).toNatClampNeg) (xs (nI (i + 4)).toNatClampNeg) (xs (nI (i + 5)).toNatClampNeg) M hI) (fun r1 M1 H locs h1 hP hD hS => ?_)
  refine lv_aload_n hx hb dL_law_295 rfl (lv_at hl 2 rfl) ?_
  refine lv_aload_n hx hb dL_law_296 rfl (lv_at hl 0 rfl) ?_
  refine lv_iload_n hx hb dL_law_297 rfl (lv_at hl 3 rfl) ?_
  refine lv_iconst (v := 1) hx hb dL_law_298 (by decide) ?_
  refine lv_iadd hx hb dL_law_299 ?_
  rw [show nI i + (1 : Int32) = nI (i + 1) from by rw [li_1, nI_add]]
  refine va_sld hx hb hX hbl hbA hS (sc_in hL (by decide) hi) dL_law_300 ?_
  refine lv_aload_n hx hb dL_law_301 rfl (lv_at hl 0 rfl) ?_
  refine lv_iload_n hx hb dL_law_302 rfl (lv_at hl 3 rfl) ?_
  refine lv_iconst (v := 2) hx hb dL_law_303 (by decide) ?_
  refine lv_iadd hx hb dL_law_304 ?_
  rw [show nI i + (2 : Int32) = nI (i + 2) from by rw [li_2, nI_add]]
  refine va_sld hx hb hX hbl hbA hS (sc_in hL (by decide) hi) dL_law_305 ?_
  refine lv_aload_n hx hb dL_law_306 rfl (lv_at hl 0 rfl) ?_
  refine lv_iload_n hx hb dL_law_307 rfl (lv_at hl 3 rfl) ?_
  refine lv_iconst (v := 3) hx hb dL_law_308 (by decide) ?_
  refine lv_iadd hx hb dL_law_309 ?_
  rw [show nI i + (3 : Int32) = nI (i + 3) from by rw [li_3, nI_add]]
  refine va_sld hx hb hX hbl hbA hS (sc_in hL (by decide) hi) dL_law_310 ?_
  refine lv_aload_n hx hb dL_law_311 rfl (lv_at hl 0 rfl) ?_
  refine lv_iload_n hx hb dL_law_312 rfl (lv_at hl 3 rfl) ?_
  refine lv_iconst (v := 4) hx hb dL_law_313 (by decide) ?_
  refine lv_iadd hx hb dL_law_314 ?_
  rw [show nI i + (4 : Int32) = nI (i + 4) from by rw [li_4, nI_add]]
  refine va_sld hx hb hX hbl hbA hS (sc_in hL (by decide) hi) dL_law_315 ?_
  refine lv_aload_n hx hb dL_law_316 rfl (lv_at hl 0 rfl) ?_
  refine lv_iload_n hx hb dL_law_317 rfl (lv_at hl 3 rfl) ?_
  refine lv_iconst (v := 5) hx hb dL_law_318 (by decide) ?_
  refine lv_iadd hx hb dL_law_319 ?_
  rw [show nI i + (5 : Int32) = nI (i + 5) from by rw [li_5, nI_add]]
  refine va_sld hx hb hX hbl hbA hS (sc_in hL (by decide) hi) dL_law_320 ?_
  refine law_call C 49 [.int (xs (nI (i + 1)).toNatClampNeg), .int (xs (nI (i + 2)).toNatClampNeg), .int (xs (nI (i + 3)).toNatClampNeg), .int (xs (nI (i + 4)).toNatClampNeg), .int (xs (nI (i + 5)).toNatClampNeg)] [.int r1] rfl dL_law_321 gW_X8_copy rfl hyW_X8_copy (by decide) (by decide) TX8 23 rfl (by decide) (Nat.le_of_ble_eq_true rfl) rfl hP hD hS hl.1 h1 (fun r2 M2 H locs h2 hP hD hS => ?_)
  exact lv_icmp_eq (tgt := 1219) hx hb dL_law_324 (by decide) (fun _ => kk M2 h2.2 H locs ls hP hD hS hl) (fun c9 => absurd h2.1 c9)
theorem hyW_X7_drop : yX7_drop.cls = RX7 ∧ yX7_drop.cls ≠ "java/lang/invoke/MethodHandle" ∧ yX7_drop.cls ≠ "java/lang/invoke/VarHandle" ∧ (parseMethodDescriptor yX7_drop.desc).map (fun d => d.parameters.length) = some 1 := by decide +kernel
theorem hyW_X8_drop : yX8_drop.cls = RX8 ∧ yX8_drop.cls ≠ "java/lang/invoke/MethodHandle" ∧ yX8_drop.cls ≠ "java/lang/invoke/VarHandle" ∧ (parseMethodDescriptor yX8_drop.desc).map (fun d => d.parameters.length) = some 1 := by decide +kernel
set_option maxHeartbeats 4000000 in
set_option maxRecDepth 100000 in
theorem law_3 {p : Program} {l : Launch} {e : Env} {s : State} {m : MethodId} {below : List Frame} {meth : Method} {c : Code} {b L : Nat} {xs : Nat → Int32} {G : Gg} (hL : L ≤ 3072) (C : LC p s m meth c b L xs G) {i : Nat} (hi : i + 6 ≤ L) {M : Mm} (hI : Inv M) (kk : ∀ M3, Inv M3 → LB p l e s m below meth c b G 1219 i M3) : LB p l e s m below meth c b G 329 i M := by
  intro H locs ls hP hD hS hl
  obtain ⟨hx, hb, hr, hml, hown, hts, hX, hbl, hlocks, hgv⟩ := C.1
  have hbA : ¬ LA s b := Nat.not_le.mpr hbl
  refine lv_aload_n hx hb dL_law_329 rfl (lv_at hl 1 rfl) ?_
  refine lv_aload_n hx hb dL_law_330 rfl (lv_at hl 0 rfl) ?_
  refine lv_iload_n hx hb dL_law_331 rfl (lv_at hl 3 rfl) ?_
  refine lv_iconst (v := 1) hx hb dL_law_332 (by decide) ?_
  refine lv_iadd hx hb dL_law_333 ?_
  rw [show nI i + (1 : Int32) = nI (i + 1) from by rw [li_1, nI_add]]
  refine va_sld hx hb hX hbl hbA hS (sc_in hL (by decide) hi) dL_law_334 ?_
  refine law_call C 0 [.int (xs (nI (i + 1)).toNatClampNeg)] [] rfl dL_law_335 gW_X7_drop rfl hyW_X7_drop (by decide) (by decide) TX7 11 rfl (by decide) (Nat.le_of_ble_eq_true rfl) rfl hP hD hS hl.1 (L_drop (xs (nI (i + 1)).toNatClampNeg) M hI) (fun r1 M1 H locs h1 hP hD hS => ?_)
  refine lv_aload_n hx hb dL_law_338 rfl (lv_at hl 2 rfl) ?_
  refine lv_aload_n hx hb dL_law_339 rfl (lv_at hl 0 rfl) ?_
  refine lv_iload_n hx hb dL_law_340 rfl (lv_at hl 3 rfl) ?_
  refine lv_iconst (v := 1) hx hb dL_law_341 (by decide) ?_
  refine lv_iadd hx hb dL_law_342 ?_
  rw [show nI i + (1 : Int32) = nI (i + 1) from by rw [li_1, nI_add]]
  refine va_sld hx hb hX hbl hbA hS (sc_in hL (by decide) hi) dL_law_343 ?_
  refine law_call C 49 [.int (xs (nI (i + 1)).toNatClampNeg)] [.int r1] rfl dL_law_344 gW_X8_drop rfl hyW_X8_drop (by decide) (by decide) TX8 23 rfl (by decide) (Nat.le_of_ble_eq_true rfl) rfl hP hD hS hl.1 h1 (fun r2 M2 H locs h2 hP hD hS => ?_)
  exact lv_icmp_eq (tgt := 1219) hx hb dL_law_347 (by decide) (fun _ => kk M2 h2.2 H locs ls hP hD hS hl) (fun c9 => absurd h2.1 c9)
theorem hyW_X7_feed : yX7_feed.cls = RX7 ∧ yX7_feed.cls ≠ "java/lang/invoke/MethodHandle" ∧ yX7_feed.cls ≠ "java/lang/invoke/VarHandle" ∧ (parseMethodDescriptor yX7_feed.desc).map (fun d => d.parameters.length) = some 1 := by decide +kernel
theorem hyW_X8_feed : yX8_feed.cls = RX8 ∧ yX8_feed.cls ≠ "java/lang/invoke/MethodHandle" ∧ yX8_feed.cls ≠ "java/lang/invoke/VarHandle" ∧ (parseMethodDescriptor yX8_feed.desc).map (fun d => d.parameters.length) = some 1 := by decide +kernel
set_option maxHeartbeats 4000000 in
set_option maxRecDepth 100000 in
theorem law_4 {p : Program} {l : Launch} {e : Env} {s : State} {m : MethodId} {below : List Frame} {meth : Method} {c : Code} {b L : Nat} {xs : Nat → Int32} {G : Gg} (hL : L ≤ 3072) (C : LC p s m meth c b L xs G) {i : Nat} (hi : i + 6 ≤ L) {M : Mm} (hI : Inv M) (kk : ∀ M3, Inv M3 → LB p l e s m below meth c b G 1219 i M3) : LB p l e s m below meth c b G 352 i M := by
  intro H locs ls hP hD hS hl
  obtain ⟨hx, hb, hr, hml, hown, hts, hX, hbl, hlocks, hgv⟩ := C.1
  have hbA : ¬ LA s b := Nat.not_le.mpr hbl
  refine lv_aload_n hx hb dL_law_352 rfl (lv_at hl 1 rfl) ?_
  refine lv_aload_n hx hb dL_law_353 rfl (lv_at hl 0 rfl) ?_
  refine lv_iload_n hx hb dL_law_354 rfl (lv_at hl 3 rfl) ?_
  refine lv_iconst (v := 1) hx hb dL_law_355 (by decide) ?_
  refine lv_iadd hx hb dL_law_356 ?_
  rw [show nI i + (1 : Int32) = nI (i + 1) from by rw [li_1, nI_add]]
  refine va_sld hx hb hX hbl hbA hS (sc_in hL (by decide) hi) dL_law_357 ?_
  refine law_call C 0 [.int (xs (nI (i + 1)).toNatClampNeg)] [] rfl dL_law_358 gW_X7_feed rfl hyW_X7_feed (by decide) (by decide) TX7 11 rfl (by decide) (Nat.le_of_ble_eq_true rfl) rfl hP hD hS hl.1 (L_feed (xs (nI (i + 1)).toNatClampNeg) M hI) (fun r1 M1 H locs h1 hP hD hS => ?_)
  refine lv_aload_n hx hb dL_law_361 rfl (lv_at hl 2 rfl) ?_
  refine lv_aload_n hx hb dL_law_362 rfl (lv_at hl 0 rfl) ?_
  refine lv_iload_n hx hb dL_law_363 rfl (lv_at hl 3 rfl) ?_
  refine lv_iconst (v := 1) hx hb dL_law_364 (by decide) ?_
  refine lv_iadd hx hb dL_law_365 ?_
  rw [show nI i + (1 : Int32) = nI (i + 1) from by rw [li_1, nI_add]]
  refine va_sld hx hb hX hbl hbA hS (sc_in hL (by decide) hi) dL_law_366 ?_
  refine law_call C 49 [.int (xs (nI (i + 1)).toNatClampNeg)] [.int r1] rfl dL_law_367 gW_X8_feed rfl hyW_X8_feed (by decide) (by decide) TX8 23 rfl (by decide) (Nat.le_of_ble_eq_true rfl) rfl hP hD hS hl.1 h1 (fun r2 M2 H locs h2 hP hD hS => ?_)
  exact lv_icmp_eq (tgt := 1219) hx hb dL_law_370 (by decide) (fun _ => kk M2 h2.2 H locs ls hP hD hS hl) (fun c9 => absurd h2.1 c9)
theorem hyW_X7_saints : yX7_saints.cls = RX7 ∧ yX7_saints.cls ≠ "java/lang/invoke/MethodHandle" ∧ yX7_saints.cls ≠ "java/lang/invoke/VarHandle" ∧ (parseMethodDescriptor yX7_saints.desc).map (fun d => d.parameters.length) = some 0 := by decide +kernel
theorem hyW_X8_saints : yX8_saints.cls = RX8 ∧ yX8_saints.cls ≠ "java/lang/invoke/MethodHandle" ∧ yX8_saints.cls ≠ "java/lang/invoke/VarHandle" ∧ (parseMethodDescriptor yX8_saints.desc).map (fun d => d.parameters.length) = some 0 := by decide +kernel
set_option maxHeartbeats 4000000 in
set_option maxRecDepth 100000 in
theorem law_5 {p : Program} {l : Launch} {e : Env} {s : State} {m : MethodId} {below : List Frame} {meth : Method} {c : Code} {b L : Nat} {xs : Nat → Int32} {G : Gg} (hL : L ≤ 3072) (C : LC p s m meth c b L xs G) {i : Nat} (hi : i + 6 ≤ L) {M : Mm} (hI : Inv M) (kk : ∀ M3, Inv M3 → LB p l e s m below meth c b G 1219 i M3) : LB p l e s m below meth c b G 375 i M := by
  intro H locs ls hP hD hS hl
  obtain ⟨hx, hb, hr, hml, hown, hts, hX, hbl, hlocks, hgv⟩ := C.1
  have hbA : ¬ LA s b := Nat.not_le.mpr hbl
  refine lv_aload_n hx hb dL_law_375 rfl (lv_at hl 1 rfl) ?_
  refine law_call C 0 [] [] rfl dL_law_376 gW_X7_saints rfl hyW_X7_saints (by decide) (by decide) TX7 11 rfl (by decide) (Nat.le_of_ble_eq_true rfl) rfl hP hD hS hl.1 (L_saints  M hI) (fun r1 M1 H locs h1 hP hD hS => ?_)
  refine lv_aload_n hx hb dL_law_379 rfl (lv_at hl 2 rfl) ?_
  refine law_call C 49 [] [.int r1] rfl dL_law_380 gW_X8_saints rfl hyW_X8_saints (by decide) (by decide) TX8 23 rfl (by decide) (Nat.le_of_ble_eq_true rfl) rfl hP hD hS hl.1 h1 (fun r2 M2 H locs h2 hP hD hS => ?_)
  exact lv_icmp_eq (tgt := 1219) hx hb dL_law_383 (by decide) (fun _ => kk M2 h2.2 H locs ls hP hD hS hl) (fun c9 => absurd h2.1 c9)
theorem hyW_X7_fault : yX7_fault.cls = RX7 ∧ yX7_fault.cls ≠ "java/lang/invoke/MethodHandle" ∧ yX7_fault.cls ≠ "java/lang/invoke/VarHandle" ∧ (parseMethodDescriptor yX7_fault.desc).map (fun d => d.parameters.length) = some 0 := by decide +kernel
theorem hyW_X8_fault : yX8_fault.cls = RX8 ∧ yX8_fault.cls ≠ "java/lang/invoke/MethodHandle" ∧ yX8_fault.cls ≠ "java/lang/invoke/VarHandle" ∧ (parseMethodDescriptor yX8_fault.desc).map (fun d => d.parameters.length) = some 0 := by decide +kernel
set_option maxHeartbeats 4000000 in
set_option maxRecDepth 100000 in
theorem law_6 {p : Program} {l : Launch} {e : Env} {s : State} {m : MethodId} {below : List Frame} {meth : Method} {c : Code} {b L : Nat} {xs : Nat → Int32} {G : Gg} (hL : L ≤ 3072) (C : LC p s m meth c b L xs G) {i : Nat} (hi : i + 6 ≤ L) {M : Mm} (hI : Inv M) (kk : ∀ M3, Inv M3 → LB p l e s m below meth c b G 1219 i M3) : LB p l e s m below meth c b G 388 i M := by
  intro H locs ls hP hD hS hl
  obtain ⟨hx, hb, hr, hml, hown, hts, hX, hbl, hlocks, hgv⟩ := C.1
  have hbA : ¬ LA s b := Nat.not_le.mpr hbl
  refine lv_aload_n hx hb dL_law_388 rfl (lv_at hl 1 rfl) ?_
  refine law_call C 0 [] [] rfl dL_law_389 gW_X7_fault rfl hyW_X7_fault (by decide) (by decide) TX7 11 rfl (by decide) (Nat.le_of_ble_eq_true rfl) rfl hP hD hS hl.1 (L_fault  M hI) (fun r1 M1 H locs h1 hP hD hS => ?_)
  refine lv_aload_n hx hb dL_law_392 rfl (lv_at hl 2 rfl) ?_
  refine law_call C 49 [] [.int r1] rfl dL_law_393 gW_X8_fault rfl hyW_X8_fault (by decide) (by decide) TX8 23 rfl (by decide) (Nat.le_of_ble_eq_true rfl) rfl hP hD hS hl.1 h1 (fun r2 M2 H locs h2 hP hD hS => ?_)
  exact lv_icmp_eq (tgt := 1219) hx hb dL_law_396 (by decide) (fun _ => kk M2 h2.2 H locs ls hP hD hS hl) (fun c9 => absurd h2.1 c9)
theorem hyW_X7_steps : yX7_steps.cls = RX7 ∧ yX7_steps.cls ≠ "java/lang/invoke/MethodHandle" ∧ yX7_steps.cls ≠ "java/lang/invoke/VarHandle" ∧ (parseMethodDescriptor yX7_steps.desc).map (fun d => d.parameters.length) = some 1 := by decide +kernel
theorem hyW_X8_steps : yX8_steps.cls = RX8 ∧ yX8_steps.cls ≠ "java/lang/invoke/MethodHandle" ∧ yX8_steps.cls ≠ "java/lang/invoke/VarHandle" ∧ (parseMethodDescriptor yX8_steps.desc).map (fun d => d.parameters.length) = some 1 := by decide +kernel
set_option maxHeartbeats 4000000 in
set_option maxRecDepth 100000 in
theorem law_7 {p : Program} {l : Launch} {e : Env} {s : State} {m : MethodId} {below : List Frame} {meth : Method} {c : Code} {b L : Nat} {xs : Nat → Int32} {G : Gg} (hL : L ≤ 3072) (C : LC p s m meth c b L xs G) {i : Nat} (hi : i + 6 ≤ L) {M : Mm} (hI : Inv M) (kk : ∀ M3, Inv M3 → LB p l e s m below meth c b G 1219 i M3) : LB p l e s m below meth c b G 401 i M := by
  intro H locs ls hP hD hS hl
  obtain ⟨hx, hb, hr, hml, hown, hts, hX, hbl, hlocks, hgv⟩ := C.1
  have hbA : ¬ LA s b := Nat.not_le.mpr hbl
  refine lv_aload_n hx hb dL_law_401 rfl (lv_at hl 1 rfl) ?_
  refine lv_aload_n hx hb dL_law_402 rfl (lv_at hl 0 rfl) ?_
  refine lv_iload_n hx hb dL_law_403 rfl (lv_at hl 3 rfl) ?_
  refine lv_iconst (v := 1) hx hb dL_law_404 (by decide) ?_
  refine lv_iadd hx hb dL_law_405 ?_
  rw [show nI i + (1 : Int32) = nI (i + 1) from by rw [li_1, nI_add]]
  refine va_sld hx hb hX hbl hbA hS (sc_in hL (by decide) hi) dL_law_406 ?_
  refine law_call C 0 [.int (xs (nI (i + 1)).toNatClampNeg)] [] rfl dL_law_407 gW_X7_steps rfl hyW_X7_steps (by decide) (by decide) TX7 11 rfl (by decide) (Nat.le_of_ble_eq_true rfl) rfl hP hD hS hl.1 (L_steps (xs (nI (i + 1)).toNatClampNeg) M hI) (fun r1 M1 H locs h1 hP hD hS => ?_)
  refine lv_aload_n hx hb dL_law_410 rfl (lv_at hl 2 rfl) ?_
  refine lv_aload_n hx hb dL_law_411 rfl (lv_at hl 0 rfl) ?_
  refine lv_iload_n hx hb dL_law_412 rfl (lv_at hl 3 rfl) ?_
  refine lv_iconst (v := 1) hx hb dL_law_413 (by decide) ?_
  refine lv_iadd hx hb dL_law_414 ?_
  rw [show nI i + (1 : Int32) = nI (i + 1) from by rw [li_1, nI_add]]
  refine va_sld hx hb hX hbl hbA hS (sc_in hL (by decide) hi) dL_law_415 ?_
  refine law_call C 49 [.int (xs (nI (i + 1)).toNatClampNeg)] [.int r1] rfl dL_law_416 gW_X8_steps rfl hyW_X8_steps (by decide) (by decide) TX8 23 rfl (by decide) (Nat.le_of_ble_eq_true rfl) rfl hP hD hS hl.1 h1 (fun r2 M2 H locs h2 hP hD hS => ?_)
  exact lv_icmp_eq (tgt := 1219) hx hb dL_law_419 (by decide) (fun _ => kk M2 h2.2 H locs ls hP hD hS hl) (fun c9 => absurd h2.1 c9)
theorem hyW_X7_swap : yX7_swap.cls = RX7 ∧ yX7_swap.cls ≠ "java/lang/invoke/MethodHandle" ∧ yX7_swap.cls ≠ "java/lang/invoke/VarHandle" ∧ (parseMethodDescriptor yX7_swap.desc).map (fun d => d.parameters.length) = some 2 := by decide +kernel
theorem hyW_X8_swap : yX8_swap.cls = RX8 ∧ yX8_swap.cls ≠ "java/lang/invoke/MethodHandle" ∧ yX8_swap.cls ≠ "java/lang/invoke/VarHandle" ∧ (parseMethodDescriptor yX8_swap.desc).map (fun d => d.parameters.length) = some 2 := by decide +kernel
set_option maxHeartbeats 4000000 in
set_option maxRecDepth 100000 in
theorem law_8 {p : Program} {l : Launch} {e : Env} {s : State} {m : MethodId} {below : List Frame} {meth : Method} {c : Code} {b L : Nat} {xs : Nat → Int32} {G : Gg} (hL : L ≤ 3072) (C : LC p s m meth c b L xs G) {i : Nat} (hi : i + 6 ≤ L) {M : Mm} (hI : Inv M) (kk : ∀ M3, Inv M3 → LB p l e s m below meth c b G 1219 i M3) : LB p l e s m below meth c b G 424 i M := by
  intro H locs ls hP hD hS hl
  obtain ⟨hx, hb, hr, hml, hown, hts, hX, hbl, hlocks, hgv⟩ := C.1
  have hbA : ¬ LA s b := Nat.not_le.mpr hbl
  refine lv_aload_n hx hb dL_law_424 rfl (lv_at hl 1 rfl) ?_
  refine lv_aload_n hx hb dL_law_425 rfl (lv_at hl 0 rfl) ?_
  refine lv_iload_n hx hb dL_law_426 rfl (lv_at hl 3 rfl) ?_
  refine lv_iconst (v := 1) hx hb dL_law_427 (by decide) ?_
  refine lv_iadd hx hb dL_law_428 ?_
  rw [show nI i + (1 : Int32) = nI (i + 1) from by rw [li_1, nI_add]]
  refine va_sld hx hb hX hbl hbA hS (sc_in hL (by decide) hi) dL_law_429 ?_
  refine lv_aload_n hx hb dL_law_430 rfl (lv_at hl 0 rfl) ?_
  refine lv_iload_n hx hb dL_law_431 rfl (lv_at hl 3 rfl) ?_
  refine lv_iconst (v := 2) hx hb dL_law_432 (by decide) ?_
  refine lv_iadd hx hb dL_law_433 ?_
  rw [show nI i + (2 : Int32) = nI (i + 2) from by rw [li_2, nI_add]]
  refine va_sld hx hb hX hbl hbA hS (sc_in hL (by decide) hi) dL_law_434 ?_
  refine law_call C 0 [.int (xs (nI (i + 1)).toNatClampNeg), .int (xs (nI (i + 2)).toNatClampNeg)] [] rfl dL_law_435 gW_X7_swap rfl hyW_X7_swap (by decide) (by decide) TX7 11 rfl (by decide) (Nat.le_of_ble_eq_true rfl) rfl hP hD hS hl.1 (L_swap (xs (nI (i + 1)).toNatClampNeg) (xs (nI (i + 2)).toNatClampNeg) M hI) (fun r1 M1 H locs h1 hP hD hS => ?_)
  refine lv_aload_n hx hb dL_law_438 rfl (lv_at hl 2 rfl) ?_
  refine lv_aload_n hx hb dL_law_439 rfl (lv_at hl 0 rfl) ?_
  refine lv_iload_n hx hb dL_law_440 rfl (lv_at hl 3 rfl) ?_
  refine lv_iconst (v := 1) hx hb dL_law_441 (by decide) ?_
  refine lv_iadd hx hb dL_law_442 ?_
  rw [show nI i + (1 : Int32) = nI (i + 1) from by rw [li_1, nI_add]]
  refine va_sld hx hb hX hbl hbA hS (sc_in hL (by decide) hi) dL_law_443 ?_
  refine lv_aload_n hx hb dL_law_444 rfl (lv_at hl 0 rfl) ?_
  refine lv_iload_n hx hb dL_law_445 rfl (lv_at hl 3 rfl) ?_
  refine lv_iconst (v := 2) hx hb dL_law_446 (by decide) ?_
  refine lv_iadd hx hb dL_law_447 ?_
  rw [show nI i + (2 : Int32) = nI (i + 2) from by rw [li_2, nI_add]]
  refine va_sld hx hb hX hbl hbA hS (sc_in hL (by decide) hi) dL_law_448 ?_
  refine law_call C 49 [.int (xs (nI (i + 1)).toNatClampNeg), .int (xs (nI (i + 2)).toNatClampNeg)] [.int r1] rfl dL_law_449 gW_X8_swap rfl hyW_X8_swap (by decide) (by decide) TX8 23 rfl (by decide) (Nat.le_of_ble_eq_true rfl) rfl hP hD hS hl.1 h1 (fun r2 M2 H locs h2 hP hD hS => ?_)
  exact lv_icmp_eq (tgt := 1219) hx hb dL_law_452 (by decide) (fun _ => kk M2 h2.2 H locs ls hP hD hS hl) (fun c9 => absurd h2.1 c9)
theorem hyW_X7_night : yX7_night.cls = RX7 ∧ yX7_night.cls ≠ "java/lang/invoke/MethodHandle" ∧ yX7_night.cls ≠ "java/lang/invoke/VarHandle" ∧ (parseMethodDescriptor yX7_night.desc).map (fun d => d.parameters.length) = some 1 := by decide +kernel
theorem hyW_X8_night : yX8_night.cls = RX8 ∧ yX8_night.cls ≠ "java/lang/invoke/MethodHandle" ∧ yX8_night.cls ≠ "java/lang/invoke/VarHandle" ∧ (parseMethodDescriptor yX8_night.desc).map (fun d => d.parameters.length) = some 1 := by decide +kernel
set_option maxHeartbeats 4000000 in
set_option maxRecDepth 100000 in
theorem law_9 {p : Program} {l : Launch} {e : Env} {s : State} {m : MethodId} {below : List Frame} {meth : Method} {c : Code} {b L : Nat} {xs : Nat → Int32} {G : Gg} (hL : L ≤ 3072) (C : LC p s m meth c b L xs G) {i : Nat} (hi : i + 6 ≤ L) {M : Mm} (hI : Inv M) (kk : ∀ M3, Inv M3 → LB p l e s m below meth c b G 1219 i M3) : LB p l e s m below meth c b G 457 i M := by
  intro H locs ls hP hD hS hl
  obtain ⟨hx, hb, hr, hml, hown, hts, hX, hbl, hlocks, hgv⟩ := C.1
  have hbA : ¬ LA s b := Nat.not_le.mpr hbl
  refine lv_aload_n hx hb dL_law_457 rfl (lv_at hl 1 rfl) ?_
  refine lv_aload_n hx hb dL_law_458 rfl (lv_at hl 0 rfl) ?_
  refine lv_iload_n hx hb dL_law_459 rfl (lv_at hl 3 rfl) ?_
  refine lv_iconst (v := 1) hx hb dL_law_460 (by decide) ?_
  refine lv_iadd hx hb dL_law_461 ?_
  rw [show nI i + (1 : Int32) = nI (i + 1) from by rw [li_1, nI_add]]
  refine va_sld hx hb hX hbl hbA hS (sc_in hL (by decide) hi) dL_law_462 ?_
  refine law_call C 0 [.int (xs (nI (i + 1)).toNatClampNeg)] [] rfl dL_law_463 gW_X7_night rfl hyW_X7_night (by decide) (by decide) TX7 11 rfl (by decide) (Nat.le_of_ble_eq_true rfl) rfl hP hD hS hl.1 (L_night (xs (nI (i + 1)).toNatClampNeg) M hI) (fun r1 M1 H locs h1 hP hD hS => ?_)
  refine lv_aload_n hx hb dL_law_466 rfl (lv_at hl 2 rfl) ?_
  refine lv_aload_n hx hb dL_law_467 rfl (lv_at hl 0 rfl) ?_
  refine lv_iload_n hx hb dL_law_468 rfl (lv_at hl 3 rfl) ?_
  refine lv_iconst (v := 1) hx hb dL_law_469 (by decide) ?_
  refine lv_iadd hx hb dL_law_470 ?_
  rw [show nI i + (1 : Int32) = nI (i + 1) from by rw [li_1, nI_add]]
  refine va_sld hx hb hX hbl hbA hS (sc_in hL (by decide) hi) dL_law_471 ?_
  refine law_call C 49 [.int (xs (nI (i + 1)).toNatClampNeg)] [.int r1] rfl dL_law_472 gW_X8_night rfl hyW_X8_night (by decide) (by decide) TX8 23 rfl (by decide) (Nat.le_of_ble_eq_true rfl) rfl hP hD hS hl.1 h1 (fun r2 M2 H locs h2 hP hD hS => ?_)
  exact lv_icmp_eq (tgt := 1219) hx hb dL_law_475 (by decide) (fun _ => kk M2 h2.2 H locs ls hP hD hS hl) (fun c9 => absurd h2.1 c9)
theorem hyW_X7_undo : yX7_undo.cls = RX7 ∧ yX7_undo.cls ≠ "java/lang/invoke/MethodHandle" ∧ yX7_undo.cls ≠ "java/lang/invoke/VarHandle" ∧ (parseMethodDescriptor yX7_undo.desc).map (fun d => d.parameters.length) = some 0 := by decide +kernel
theorem hyW_X8_undo : yX8_undo.cls = RX8 ∧ yX8_undo.cls ≠ "java/lang/invoke/MethodHandle" ∧ yX8_undo.cls ≠ "java/lang/invoke/VarHandle" ∧ (parseMethodDescriptor yX8_undo.desc).map (fun d => d.parameters.length) = some 0 := by decide +kernel
set_option maxHeartbeats 4000000 in
set_option maxRecDepth 100000 in
theorem law_10 {p : Program} {l : Launch} {e : Env} {s : State} {m : MethodId} {below : List Frame} {meth : Method} {c : Code} {b L : Nat} {xs : Nat → Int32} {G : Gg} (hL : L ≤ 3072) (C : LC p s m meth c b L xs G) {i : Nat} (hi : i + 6 ≤ L) {M : Mm} (hI : Inv M) (kk : ∀ M3, Inv M3 → LB p l e s m below meth c b G 1219 i M3) : LB p l e s m below meth c b G 480 i M := by
  intro H locs ls hP hD hS hl
  obtain ⟨hx, hb, hr, hml, hown, hts, hX, hbl, hlocks, hgv⟩ := C.1
  have hbA : ¬ LA s b := Nat.not_le.mpr hbl
  refine lv_aload_n hx hb dL_law_480 rfl (lv_at hl 1 rfl) ?_
  refine law_call C 0 [] [] rfl dL_law_481 gW_X7_undo rfl hyW_X7_undo (by decide) (by decide) TX7 11 rfl (by decide) (Nat.le_of_ble_eq_true rfl) rfl hP hD hS hl.1 (L_undo  M hI) (fun r1 M1 H locs h1 hP hD hS => ?_)
  refine lv_aload_n hx hb dL_law_484 rfl (lv_at hl 2 rfl) ?_
  refine law_call C 49 [] [.int r1] rfl dL_law_485 gW_X8_undo rfl hyW_X8_undo (by decide) (by decide) TX8 23 rfl (by decide) (Nat.le_of_ble_eq_true rfl) rfl hP hD hS hl.1 h1 (fun r2 M2 H locs h2 hP hD hS => ?_)
  exact lv_icmp_eq (tgt := 1219) hx hb dL_law_488 (by decide) (fun _ => kk M2 h2.2 H locs ls hP hD hS hl) (fun c9 => absurd h2.1 c9)
