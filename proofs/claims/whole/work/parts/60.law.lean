/-! THE LAW'S WALK -/
theorem zi_i32 {v : Int32} : zi v.toInt := by
  have h1 := Int32.le_toInt v
  have h2 := Int32.toInt_lt v
  exact ⟨by omega, by omega⟩
section LW
variable {bx : Nat × Nat × (Nat → Int32)} {cu su pc : Nat} {lv : List (Nat × zV)} {st : List zV} {t : zT}
theorem x_icmp_same (tgt : Nat) {z : Int} {off : Int} (hd : decode cL_law pc = .ok (.if_icmp .eq off, 3)) (ht : (pc : Int) + off = (tgt : Int)) (kk : zL bx cu su tgt lv st t) : zL bx cu su pc lv (vI z :: vI z :: st) t :=
  x_pure tgt (fun p l e R s m args below meth c H locs cells slots Q ls hx hb k => lv_icmp_eq hx hb hd ht (fun _ => k) (fun q => absurd rfl q)) kk
theorem x_lcmp_same (pc' : Nat) {z : Int} (hd : decode cL_law pc = .ok (.lcmp, 1)) (hp : pc + 1 = pc') (kk : zL bx cu su pc' lv (vI 0 :: st) t) : zL bx cu su pc lv (vL z :: vL z :: st) t := by
  subst hp
  refine x_pure (pc + 1) (st1 := vI 0 :: st) (fun p l e R s m args below meth c H locs cells slots Q ls hx hb k => ?_) kk
  have h : lg_cmp (Int64.ofInt z) (Int64.ofInt z) = 0 := by
    unfold lg_cmp
    rw [if_neg (by simp [Int64.lt_iff_toInt_lt]), if_pos rfl]
  rw [List.map_cons, show rv (vI 0) = .int (lg_cmp (Int64.ofInt z) (Int64.ofInt z)) from congrArg Value.int h.symm] at k
  exact W.lcmp hx hb hd k
set_option maxRecDepth 20000 in
theorem law_0 (hL : bx.2.1 ≤ 3072) {k x y : Nat} (hJ : J x y t) (hk : k ≤ 511) (h6 : 6 * (k : Int) + 6 ≤ (bx.2.1 : Int)) (K : ∀ t, J x y t → zL bx (56 + 5 * (k + 1)) (44674 + 47 * (k + 1)) 1295 [(3, vI (6 * (k : Int))), (2, vR (some y)), (1, vR (some x)), (0, vR (some bx.1))] [] t) : zL bx (56 + 5 * k) (44674 + 47 * k) 180 [(3, vI (6 * (k : Int))), (2, vR (some y)), (1, vR (some x)), (0, vR (some bx.1))] [] t := by
  obtain ⟨M, F, g, a, tC, tR, rfl, hR, hC, hX, hG, rfl, hD⟩ := hJ
  have hxC : a 0 0 ∈ tL (glue tC tR) := List.mem_append_left _ (hC.lv 0 0 (by decide) l0).1
  have hkC : tK (glue tC tR) (a 0 0) = 3 := (glue_C (hD _ (hC.lv 0 0 (by decide) l0).1)).1.trans (hC.lv 0 0 (by decide) l0).2.1
  refine x_aload_n 181 dL_law_180 rfl rfl ?_
  refine x_aload_n 182 dL_law_181 rfl rfl ?_
  refine x_iload_n 183 dL_law_182 rfl rfl ?_
  refine x_iconst 184 dL_law_183 rfl ?_
  refine x_iadd 185 dL_law_184 rfl ?_
  refine x_sld 186 ⟨by omega, by omega⟩ hL rfl dL_law_185 rfl ?_
  refine x_aload_n 187 dL_law_186 rfl rfl ?_
  refine x_iload_n 188 dL_law_187 rfl rfl ?_
  refine x_iconst 189 dL_law_188 rfl ?_
  refine x_iadd 190 dL_law_189 rfl ?_
  refine x_sld 191 ⟨by omega, by omega⟩ hL rfl dL_law_190 rfl ?_
  refine x_callV 194 [_, _] la_X3_yarn ml_L_13 im_X3_yarn se_X3_yarn hxC hkC (by decide) rfl rfl (c_yarn hC zi_i32 zi_i32 hG.1 hX).glueL rfl rfl (by decide) (Nat.le_of_ble_eq_true rfl) (by omega) (by omega) dL_law_191 rfl (fun r t hq => ?_)
  obtain ⟨t1, ⟨rfl, hCP⟩, rfl, hD1⟩ := hq
  refine x_aload_n 195 dL_law_194 rfl rfl ?_
  refine x_aload_n 196 dL_law_195 rfl rfl ?_
  refine x_iload_n 197 dL_law_196 rfl rfl ?_
  refine x_iconst 198 dL_law_197 rfl ?_
  refine x_iadd 199 dL_law_198 rfl ?_
  refine x_sld 200 ⟨by omega, by omega⟩ hL rfl dL_law_199 rfl ?_
  refine x_aload_n 201 dL_law_200 rfl rfl ?_
  refine x_iload_n 202 dL_law_201 rfl rfl ?_
  refine x_iconst 203 dL_law_202 rfl ?_
  refine x_iadd 204 dL_law_203 rfl ?_
  refine x_sld 205 ⟨by omega, by omega⟩ hL rfl dL_law_204 rfl ?_
  refine x_callV 208 [_, _] la_X4_yarn ml_L_17 im_X4_yarn se_X4_yarn (List.mem_append_right _ hR.1.1) ((glue_R hR.1.1).1.trans hR.1.2.1) (by decide) rfl rfl (r_yarn hR zi_i32 zi_i32 hG.1).glueR rfl rfl (by decide) (Nat.le_of_ble_eq_true rfl) (by omega) (by omega) dL_law_205 rfl (fun r t hq => ?_)
  obtain ⟨t2, ⟨rfl, hRP⟩, rfl, hD2⟩ := hq
  refine x_icmp_same 1295 dL_law_208 (by decide) ?_
  refine x_widen (cu' := 56 + 5 * (k + 1)) (su' := 44674 + 47 * (k + 1)) (by omega) (by omega) ?_
  exact K _ (J.join hCP ⟨_, _, hRP, eqs.rf⟩ (hG.knew (Or.inl rfl)) hD2)
set_option maxRecDepth 20000 in
theorem law_1 (hL : bx.2.1 ≤ 3072) {k x y : Nat} (hJ : J x y t) (hk : k ≤ 511) (h6 : 6 * (k : Int) + 6 ≤ (bx.2.1 : Int)) (K : ∀ t, J x y t → zL bx (56 + 5 * (k + 1)) (44674 + 47 * (k + 1)) 1295 [(3, vI (6 * (k : Int))), (2, vR (some y)), (1, vR (some x)), (0, vR (some bx.1))] [] t) : zL bx (56 + 5 * k) (44674 + 47 * k) 213 [(3, vI (6 * (k : Int))), (2, vR (some y)), (1, vR (some x)), (0, vR (some bx.1))] [] t := by
  obtain ⟨M, F, g, a, tC, tR, rfl, hR, hC, hX, hG, rfl, hD⟩ := hJ
  have hxC : a 0 0 ∈ tL (glue tC tR) := List.mem_append_left _ (hC.lv 0 0 (by decide) l0).1
  have hkC : tK (glue tC tR) (a 0 0) = 3 := (glue_C (hD _ (hC.lv 0 0 (by decide) l0).1)).1.trans (hC.lv 0 0 (by decide) l0).2.1
  refine x_aload_n 214 dL_law_213 rfl rfl ?_
  refine x_aload_n 215 dL_law_214 rfl rfl ?_
  refine x_iload_n 216 dL_law_215 rfl rfl ?_
  refine x_iconst 217 dL_law_216 rfl ?_
  refine x_iadd 218 dL_law_217 rfl ?_
  refine x_sld 219 ⟨by omega, by omega⟩ hL rfl dL_law_218 rfl ?_
  refine x_aload_n 220 dL_law_219 rfl rfl ?_
  refine x_iload_n 221 dL_law_220 rfl rfl ?_
  refine x_iconst 222 dL_law_221 rfl ?_
  refine x_iadd 223 dL_law_222 rfl ?_
  refine x_sld 224 ⟨by omega, by omega⟩ hL rfl dL_law_223 rfl ?_
  refine x_callV 227 [_, _] la_X3_tape ml_L_18 im_X3_tape se_X3_tape hxC hkC (by decide) rfl rfl (c_tape hC zi_i32 zi_i32 hG.1 hX).glueL rfl rfl (by decide) (Nat.le_of_ble_eq_true rfl) (by omega) (by omega) dL_law_224 rfl (fun r t hq => ?_)
  obtain ⟨t1, ⟨rfl, hCP⟩, rfl, hD1⟩ := hq
  refine x_aload_n 228 dL_law_227 rfl rfl ?_
  refine x_aload_n 229 dL_law_228 rfl rfl ?_
  refine x_iload_n 230 dL_law_229 rfl rfl ?_
  refine x_iconst 231 dL_law_230 rfl ?_
  refine x_iadd 232 dL_law_231 rfl ?_
  refine x_sld 233 ⟨by omega, by omega⟩ hL rfl dL_law_232 rfl ?_
  refine x_aload_n 234 dL_law_233 rfl rfl ?_
  refine x_iload_n 235 dL_law_234 rfl rfl ?_
  refine x_iconst 236 dL_law_235 rfl ?_
  refine x_iadd 237 dL_law_236 rfl ?_
  refine x_sld 238 ⟨by omega, by omega⟩ hL rfl dL_law_237 rfl ?_
  refine x_callV 241 [_, _] la_X4_tape ml_L_21 im_X4_tape se_X4_tape (List.mem_append_right _ hR.1.1) ((glue_R hR.1.1).1.trans hR.1.2.1) (by decide) rfl rfl (r_tape hR zi_i32 zi_i32 hG.1).glueR rfl rfl (by decide) (Nat.le_of_ble_eq_true rfl) (by omega) (by omega) dL_law_238 rfl (fun r t hq => ?_)
  obtain ⟨t2, ⟨rfl, hRP⟩, rfl, hD2⟩ := hq
  refine x_icmp_same 1295 dL_law_241 (by decide) ?_
  refine x_widen (cu' := 56 + 5 * (k + 1)) (su' := 44674 + 47 * (k + 1)) (by omega) (by omega) ?_
  exact K _ (J.join hCP ⟨_, _, hRP, eqs.rf⟩ (hG.knew (Or.inr rfl)) hD2)
set_option maxRecDepth 20000 in
theorem law_2 (hL : bx.2.1 ≤ 3072) {k x y : Nat} (hJ : J x y t) (hk : k ≤ 511) (h6 : 6 * (k : Int) + 6 ≤ (bx.2.1 : Int)) (K : ∀ t, J x y t → zL bx (56 + 5 * (k + 1)) (44674 + 47 * (k + 1)) 1295 [(3, vI (6 * (k : Int))), (2, vR (some y)), (1, vR (some x)), (0, vR (some bx.1))] [] t) : zL bx (56 + 5 * k) (44674 + 47 * k) 246 [(3, vI (6 * (k : Int))), (2, vR (some y)), (1, vR (some x)), (0, vR (some bx.1))] [] t := by
  obtain ⟨M, F, g, a, tC, tR, rfl, hR, hC, hX, hG, rfl, hD⟩ := hJ
  have hxC : a 0 0 ∈ tL (glue tC tR) := List.mem_append_left _ (hC.lv 0 0 (by decide) l0).1
  have hkC : tK (glue tC tR) (a 0 0) = 3 := (glue_C (hD _ (hC.lv 0 0 (by decide) l0).1)).1.trans (hC.lv 0 0 (by decide) l0).2.1
  refine x_aload_n 247 dL_law_246 rfl rfl ?_
  refine x_aload_n 248 dL_law_247 rfl rfl ?_
  refine x_iload_n 249 dL_law_248 rfl rfl ?_
  refine x_iconst 250 dL_law_249 rfl ?_
  refine x_iadd 251 dL_law_250 rfl ?_
  refine x_sld 252 ⟨by omega, by omega⟩ hL rfl dL_law_251 rfl ?_
  refine x_callV 255 [_] la_X3_pick ml_L_22 im_X3_pick se_X3_pick hxC hkC (by decide) rfl rfl (c_pick hC zi_i32 hG.1 hX).glueL rfl rfl (by decide) (Nat.le_of_ble_eq_true rfl) (by omega) (by omega) dL_law_252 rfl (fun r t hq => ?_)
  obtain ⟨t1, ⟨rfl, hCP⟩, rfl, hD1⟩ := hq
  refine x_aload_n 256 dL_law_255 rfl rfl ?_
  refine x_aload_n 257 dL_law_256 rfl rfl ?_
  refine x_iload_n 258 dL_law_257 rfl rfl ?_
  refine x_iconst 259 dL_law_258 rfl ?_
  refine x_iadd 260 dL_law_259 rfl ?_
  refine x_sld 261 ⟨by omega, by omega⟩ hL rfl dL_law_260 rfl ?_
  refine x_callV 264 [_] la_X4_pick ml_L_26 im_X4_pick se_X4_pick (List.mem_append_right _ hR.1.1) ((glue_R hR.1.1).1.trans hR.1.2.1) (by decide) rfl rfl (r_pick hR zi_i32 hG.1).glueR rfl rfl (by decide) (Nat.le_of_ble_eq_true rfl) (by omega) (by omega) dL_law_261 rfl (fun r t hq => ?_)
  obtain ⟨t2, ⟨rfl, hRP⟩, rfl, hD2⟩ := hq
  refine x_icmp_same 1295 dL_law_264 (by decide) ?_
  refine x_widen (cu' := 56 + 5 * (k + 1)) (su' := 44674 + 47 * (k + 1)) (by omega) (by omega) ?_
  exact K _ (J.join hCP ⟨_, _, hRP, eqs.rf⟩ hG.kpick hD2)
set_option maxRecDepth 20000 in
theorem law_3 (hL : bx.2.1 ≤ 3072) {k x y : Nat} (hJ : J x y t) (hk : k ≤ 511) (h6 : 6 * (k : Int) + 6 ≤ (bx.2.1 : Int)) (K : ∀ t, J x y t → zL bx (56 + 5 * (k + 1)) (44674 + 47 * (k + 1)) 1295 [(3, vI (6 * (k : Int))), (2, vR (some y)), (1, vR (some x)), (0, vR (some bx.1))] [] t) : zL bx (56 + 5 * k) (44674 + 47 * k) 269 [(3, vI (6 * (k : Int))), (2, vR (some y)), (1, vR (some x)), (0, vR (some bx.1))] [] t := by
  obtain ⟨M, F, g, a, tC, tR, rfl, hR, hC, hX, hG, rfl, hD⟩ := hJ
  have hxC : a 0 0 ∈ tL (glue tC tR) := List.mem_append_left _ (hC.lv 0 0 (by decide) l0).1
  have hkC : tK (glue tC tR) (a 0 0) = 3 := (glue_C (hD _ (hC.lv 0 0 (by decide) l0).1)).1.trans (hC.lv 0 0 (by decide) l0).2.1
  refine x_aload_n 270 dL_law_269 rfl rfl ?_
  refine x_callV 273 [] la_X3_drop ml_L_27 im_X3_drop se_X3_drop hxC hkC (by decide) rfl rfl (c_drop hC hG.1 hX).glueL rfl rfl (by decide) (Nat.le_of_ble_eq_true rfl) (by omega) (by omega) dL_law_270 rfl (fun r t hq => ?_)
  obtain ⟨t1, ⟨rfl, hCP⟩, rfl, hD1⟩ := hq
  refine x_aload_n 274 dL_law_273 rfl rfl ?_
  refine x_callV 277 [] la_X4_drop ml_L_31 im_X4_drop se_X4_drop (List.mem_append_right _ hR.1.1) ((glue_R hR.1.1).1.trans hR.1.2.1) (by decide) rfl rfl (r_drop hR).glueR rfl rfl (by decide) (Nat.le_of_ble_eq_true rfl) (by omega) (by omega) dL_law_274 rfl (fun r t hq => ?_)
  obtain ⟨t2, ⟨rfl, hRP⟩, rfl, hD2⟩ := hq
  refine x_icmp_same 1295 dL_law_277 (by decide) ?_
  refine x_widen (cu' := 56 + 5 * (k + 1)) (su' := 44674 + 47 * (k + 1)) (by omega) (by omega) ?_
  exact K _ (J.join hCP ⟨_, _, hRP, eqs.rf⟩ hG.kdrop hD2)
set_option maxRecDepth 20000 in
theorem law_4 (hL : bx.2.1 ≤ 3072) {k x y : Nat} (hJ : J x y t) (hk : k ≤ 511) (h6 : 6 * (k : Int) + 6 ≤ (bx.2.1 : Int)) (K : ∀ t, J x y t → zL bx (56 + 5 * (k + 1)) (44674 + 47 * (k + 1)) 1295 [(3, vI (6 * (k : Int))), (2, vR (some y)), (1, vR (some x)), (0, vR (some bx.1))] [] t) : zL bx (56 + 5 * k) (44674 + 47 * k) 282 [(3, vI (6 * (k : Int))), (2, vR (some y)), (1, vR (some x)), (0, vR (some bx.1))] [] t := by
  obtain ⟨M, F, g, a, tC, tR, rfl, hR, hC, hX, hG, rfl, hD⟩ := hJ
  have hxC : a 0 0 ∈ tL (glue tC tR) := List.mem_append_left _ (hC.lv 0 0 (by decide) l0).1
  have hkC : tK (glue tC tR) (a 0 0) = 3 := (glue_C (hD _ (hC.lv 0 0 (by decide) l0).1)).1.trans (hC.lv 0 0 (by decide) l0).2.1
  refine x_aload_n 283 dL_law_282 rfl rfl ?_
  refine x_aload_n 284 dL_law_283 rfl rfl ?_
  refine x_iload_n 285 dL_law_284 rfl rfl ?_
  refine x_iconst 286 dL_law_285 rfl ?_
  refine x_iadd 287 dL_law_286 rfl ?_
  refine x_sld 288 ⟨by omega, by omega⟩ hL rfl dL_law_287 rfl ?_
  refine x_aload_n 289 dL_law_288 rfl rfl ?_
  refine x_iload_n 290 dL_law_289 rfl rfl ?_
  refine x_iconst 291 dL_law_290 rfl ?_
  refine x_iadd 292 dL_law_291 rfl ?_
  refine x_sld 293 ⟨by omega, by omega⟩ hL rfl dL_law_292 rfl ?_
  refine x_aload_n 294 dL_law_293 rfl rfl ?_
  refine x_iload_n 295 dL_law_294 rfl rfl ?_
  refine x_iconst 296 dL_law_295 rfl ?_
  refine x_iadd 297 dL_law_296 rfl ?_
  refine x_sld 298 ⟨by omega, by omega⟩ hL rfl dL_law_297 rfl ?_
  refine x_callV 301 [_, _, _] la_X3_lay ml_L_32 im_X3_lay se_X3_lay hxC hkC (by decide) rfl rfl (c_lay hC zi_i32 zi_i32 zi_i32 hG.1 hX).glueL rfl rfl (by decide) (Nat.le_of_ble_eq_true rfl) (by omega) (by omega) dL_law_298 rfl (fun r t hq => ?_)
  obtain ⟨t1, ⟨rfl, hCP⟩, rfl, hD1⟩ := hq
  refine x_aload_n 302 dL_law_301 rfl rfl ?_
  refine x_aload_n 303 dL_law_302 rfl rfl ?_
  refine x_iload_n 304 dL_law_303 rfl rfl ?_
  refine x_iconst 305 dL_law_304 rfl ?_
  refine x_iadd 306 dL_law_305 rfl ?_
  refine x_sld 307 ⟨by omega, by omega⟩ hL rfl dL_law_306 rfl ?_
  refine x_aload_n 308 dL_law_307 rfl rfl ?_
  refine x_iload_n 309 dL_law_308 rfl rfl ?_
  refine x_iconst 310 dL_law_309 rfl ?_
  refine x_iadd 311 dL_law_310 rfl ?_
  refine x_sld 312 ⟨by omega, by omega⟩ hL rfl dL_law_311 rfl ?_
  refine x_aload_n 313 dL_law_312 rfl rfl ?_
  refine x_iload_n 314 dL_law_313 rfl rfl ?_
  refine x_iconst 315 dL_law_314 rfl ?_
  refine x_iadd 316 dL_law_315 rfl ?_
  refine x_sld 317 ⟨by omega, by omega⟩ hL rfl dL_law_316 rfl ?_
  refine x_callV 320 [_, _, _] la_X4_lay ml_L_36 im_X4_lay se_X4_lay (List.mem_append_right _ hR.1.1) ((glue_R hR.1.1).1.trans hR.1.2.1) (by decide) rfl rfl (r_lay hR zi_i32 zi_i32 zi_i32 hG.1).glueR rfl rfl (by decide) (Nat.le_of_ble_eq_true rfl) (by omega) (by omega) dL_law_317 rfl (fun r t hq => ?_)
  obtain ⟨t2, ⟨rfl, hRP⟩, rfl, hD2⟩ := hq
  refine x_icmp_same 1295 dL_law_320 (by decide) ?_
  refine x_widen (cu' := 56 + 5 * (k + 1)) (su' := 44674 + 47 * (k + 1)) (by omega) (by omega) ?_
  exact K _ (J.join hCP ⟨_, _, hRP, eqs.rf⟩ hG.klay hD2)
set_option maxRecDepth 20000 in
theorem law_5 (hL : bx.2.1 ≤ 3072) {k x y : Nat} (hJ : J x y t) (hk : k ≤ 511) (h6 : 6 * (k : Int) + 6 ≤ (bx.2.1 : Int)) (K : ∀ t, J x y t → zL bx (56 + 5 * (k + 1)) (44674 + 47 * (k + 1)) 1295 [(3, vI (6 * (k : Int))), (2, vR (some y)), (1, vR (some x)), (0, vR (some bx.1))] [] t) : zL bx (56 + 5 * k) (44674 + 47 * k) 325 [(3, vI (6 * (k : Int))), (2, vR (some y)), (1, vR (some x)), (0, vR (some bx.1))] [] t := by
  obtain ⟨M, F, g, a, tC, tR, rfl, hR, hC, hX, hG, rfl, hD⟩ := hJ
  have hxC : a 0 0 ∈ tL (glue tC tR) := List.mem_append_left _ (hC.lv 0 0 (by decide) l0).1
  have hkC : tK (glue tC tR) (a 0 0) = 3 := (glue_C (hD _ (hC.lv 0 0 (by decide) l0).1)).1.trans (hC.lv 0 0 (by decide) l0).2.1
  refine x_aload_n 326 dL_law_325 rfl rfl ?_
  refine x_aload_n 327 dL_law_326 rfl rfl ?_
  refine x_iload_n 328 dL_law_327 rfl rfl ?_
  refine x_iconst 329 dL_law_328 rfl ?_
  refine x_iadd 330 dL_law_329 rfl ?_
  refine x_sld 331 ⟨by omega, by omega⟩ hL rfl dL_law_330 rfl ?_
  refine x_aload_n 332 dL_law_331 rfl rfl ?_
  refine x_iload_n 333 dL_law_332 rfl rfl ?_
  refine x_iconst 334 dL_law_333 rfl ?_
  refine x_iadd 335 dL_law_334 rfl ?_
  refine x_sld 336 ⟨by omega, by omega⟩ hL rfl dL_law_335 rfl ?_
  refine x_aload_n 337 dL_law_336 rfl rfl ?_
  refine x_iload_n 338 dL_law_337 rfl rfl ?_
  refine x_iconst 339 dL_law_338 rfl ?_
  refine x_iadd 340 dL_law_339 rfl ?_
  refine x_sld 341 ⟨by omega, by omega⟩ hL rfl dL_law_340 rfl ?_
  refine x_callV 344 [_, _, _] la_X3_splice ml_L_37 im_X3_splice se_X3_splice hxC hkC (by decide) rfl rfl (c_splice hC zi_i32 zi_i32 zi_i32 hG.1 hX).glueL rfl rfl (by decide) (Nat.le_of_ble_eq_true rfl) (by omega) (by omega) dL_law_341 rfl (fun r t hq => ?_)
  obtain ⟨t1, ⟨rfl, hCP⟩, rfl, hD1⟩ := hq
  refine x_aload_n 345 dL_law_344 rfl rfl ?_
  refine x_aload_n 346 dL_law_345 rfl rfl ?_
  refine x_iload_n 347 dL_law_346 rfl rfl ?_
  refine x_iconst 348 dL_law_347 rfl ?_
  refine x_iadd 349 dL_law_348 rfl ?_
  refine x_sld 350 ⟨by omega, by omega⟩ hL rfl dL_law_349 rfl ?_
  refine x_aload_n 351 dL_law_350 rfl rfl ?_
  refine x_iload_n 352 dL_law_351 rfl rfl ?_
  refine x_iconst 353 dL_law_352 rfl ?_
  refine x_iadd 354 dL_law_353 rfl ?_
  refine x_sld 355 ⟨by omega, by omega⟩ hL rfl dL_law_354 rfl ?_
  refine x_aload_n 356 dL_law_355 rfl rfl ?_
  refine x_iload_n 357 dL_law_356 rfl rfl ?_
  refine x_iconst 358 dL_law_357 rfl ?_
  refine x_iadd 359 dL_law_358 rfl ?_
  refine x_sld 360 ⟨by omega, by omega⟩ hL rfl dL_law_359 rfl ?_
  refine x_callV 363 [_, _, _] la_X4_splice ml_L_40 im_X4_splice se_X4_splice (List.mem_append_right _ hR.1.1) ((glue_R hR.1.1).1.trans hR.1.2.1) (by decide) rfl rfl (r_splice hR zi_i32 zi_i32 zi_i32 hG.1).glueR rfl rfl (by decide) (Nat.le_of_ble_eq_true rfl) (by omega) (by omega) dL_law_360 rfl (fun r t hq => ?_)
  obtain ⟨t2, ⟨rfl, hRP⟩, rfl, hD2⟩ := hq
  refine x_icmp_same 1295 dL_law_363 (by decide) ?_
  refine x_widen (cu' := 56 + 5 * (k + 1)) (su' := 44674 + 47 * (k + 1)) (by omega) (by omega) ?_
  exact K _ (J.join hCP ⟨_, _, hRP, eqs.rf⟩ hG.kspl hD2)
set_option maxRecDepth 20000 in
theorem law_6 (hL : bx.2.1 ≤ 3072) {k x y : Nat} (hJ : J x y t) (hk : k ≤ 511) (h6 : 6 * (k : Int) + 6 ≤ (bx.2.1 : Int)) (K : ∀ t, J x y t → zL bx (56 + 5 * (k + 1)) (44674 + 47 * (k + 1)) 1295 [(3, vI (6 * (k : Int))), (2, vR (some y)), (1, vR (some x)), (0, vR (some bx.1))] [] t) : zL bx (56 + 5 * k) (44674 + 47 * k) 368 [(3, vI (6 * (k : Int))), (2, vR (some y)), (1, vR (some x)), (0, vR (some bx.1))] [] t := by
  obtain ⟨M, F, g, a, tC, tR, rfl, hR, hC, hX, hG, rfl, hD⟩ := hJ
  have hxC : a 0 0 ∈ tL (glue tC tR) := List.mem_append_left _ (hC.lv 0 0 (by decide) l0).1
  have hkC : tK (glue tC tR) (a 0 0) = 3 := (glue_C (hD _ (hC.lv 0 0 (by decide) l0).1)).1.trans (hC.lv 0 0 (by decide) l0).2.1
  refine x_aload_n 369 dL_law_368 rfl rfl ?_
  refine x_aload_n 370 dL_law_369 rfl rfl ?_
  refine x_iload_n 371 dL_law_370 rfl rfl ?_
  refine x_iconst 372 dL_law_371 rfl ?_
  refine x_iadd 373 dL_law_372 rfl ?_
  refine x_sld 374 ⟨by omega, by omega⟩ hL rfl dL_law_373 rfl ?_
  refine x_callV 377 [_] la_X3_untwist ml_L_41 im_X3_untwist se_X3_untwist hxC hkC (by decide) rfl rfl (c_untwist hC zi_i32 hG.1 hX).glueL rfl rfl (by decide) (Nat.le_of_ble_eq_true rfl) (by omega) (by omega) dL_law_374 rfl (fun r t hq => ?_)
  obtain ⟨t1, ⟨rfl, hCP⟩, rfl, hD1⟩ := hq
  refine x_aload_n 378 dL_law_377 rfl rfl ?_
  refine x_aload_n 379 dL_law_378 rfl rfl ?_
  refine x_iload_n 380 dL_law_379 rfl rfl ?_
  refine x_iconst 381 dL_law_380 rfl ?_
  refine x_iadd 382 dL_law_381 rfl ?_
  refine x_sld 383 ⟨by omega, by omega⟩ hL rfl dL_law_382 rfl ?_
  refine x_callV 386 [_] la_X4_untwist ml_L_44 im_X4_untwist se_X4_untwist (List.mem_append_right _ hR.1.1) ((glue_R hR.1.1).1.trans hR.1.2.1) (by decide) rfl rfl (r_untwist hR zi_i32 hG.1).glueR rfl rfl (by decide) (Nat.le_of_ble_eq_true rfl) (by omega) (by omega) dL_law_383 rfl (fun r t hq => ?_)
  obtain ⟨t2, ⟨rfl, hRP⟩, rfl, hD2⟩ := hq
  refine x_icmp_same 1295 dL_law_386 (by decide) ?_
  refine x_widen (cu' := 56 + 5 * (k + 1)) (su' := 44674 + 47 * (k + 1)) (by omega) (by omega) ?_
  exact K _ (J.join hCP ⟨_, _, hRP, eqs.rf⟩ hG.kunt hD2)
set_option maxRecDepth 20000 in
theorem law_7 (hL : bx.2.1 ≤ 3072) {k x y : Nat} (hJ : J x y t) (hk : k ≤ 511) (h6 : 6 * (k : Int) + 6 ≤ (bx.2.1 : Int)) (K : ∀ t, J x y t → zL bx (56 + 5 * (k + 1)) (44674 + 47 * (k + 1)) 1295 [(3, vI (6 * (k : Int))), (2, vR (some y)), (1, vR (some x)), (0, vR (some bx.1))] [] t) : zL bx (56 + 5 * k) (44674 + 47 * k) 391 [(3, vI (6 * (k : Int))), (2, vR (some y)), (1, vR (some x)), (0, vR (some bx.1))] [] t := by
  obtain ⟨M, F, g, a, tC, tR, rfl, hR, hC, hX, hG, rfl, hD⟩ := hJ
  have hxC : a 0 0 ∈ tL (glue tC tR) := List.mem_append_left _ (hC.lv 0 0 (by decide) l0).1
  have hkC : tK (glue tC tR) (a 0 0) = 3 := (glue_C (hD _ (hC.lv 0 0 (by decide) l0).1)).1.trans (hC.lv 0 0 (by decide) l0).2.1
  refine x_aload_n 392 dL_law_391 rfl rfl ?_
  refine x_aload_n 393 dL_law_392 rfl rfl ?_
  refine x_iload_n 394 dL_law_393 rfl rfl ?_
  refine x_iconst 395 dL_law_394 rfl ?_
  refine x_iadd 396 dL_law_395 rfl ?_
  refine x_sld 397 ⟨by omega, by omega⟩ hL rfl dL_law_396 rfl ?_
  refine x_aload_n 398 dL_law_397 rfl rfl ?_
  refine x_iload_n 399 dL_law_398 rfl rfl ?_
  refine x_iconst 400 dL_law_399 rfl ?_
  refine x_iadd 401 dL_law_400 rfl ?_
  refine x_sld 402 ⟨by omega, by omega⟩ hL rfl dL_law_401 rfl ?_
  refine x_callV 405 [_, _] la_X3_of ml_L_45 im_X3_of se_X3_of hxC hkC (by decide) rfl rfl (c_of hC zi_i32 zi_i32 hG.1 hX).glueL rfl rfl (by decide) (Nat.le_of_ble_eq_true rfl) (by omega) (by omega) dL_law_402 rfl (fun r t hq => ?_)
  obtain ⟨t1, ⟨rfl, hCP⟩, rfl, hD1⟩ := hq
  refine x_aload_n 406 dL_law_405 rfl rfl ?_
  refine x_aload_n 407 dL_law_406 rfl rfl ?_
  refine x_iload_n 408 dL_law_407 rfl rfl ?_
  refine x_iconst 409 dL_law_408 rfl ?_
  refine x_iadd 410 dL_law_409 rfl ?_
  refine x_sld 411 ⟨by omega, by omega⟩ hL rfl dL_law_410 rfl ?_
  refine x_aload_n 412 dL_law_411 rfl rfl ?_
  refine x_iload_n 413 dL_law_412 rfl rfl ?_
  refine x_iconst 414 dL_law_413 rfl ?_
  refine x_iadd 415 dL_law_414 rfl ?_
  refine x_sld 416 ⟨by omega, by omega⟩ hL rfl dL_law_415 rfl ?_
  refine x_callV 419 [_, _] la_X4_of ml_L_48 im_X4_of se_X4_of (List.mem_append_right _ hR.1.1) ((glue_R hR.1.1).1.trans hR.1.2.1) (by decide) rfl rfl (r_of hR zi_i32 zi_i32 hG.1).glueR rfl rfl (by decide) (Nat.le_of_ble_eq_true rfl) (by omega) (by omega) dL_law_416 rfl (fun r t hq => ?_)
  obtain ⟨t2, ⟨rfl, hRP⟩, rfl, hD2⟩ := hq
  refine x_icmp_same 1295 dL_law_419 (by decide) ?_
  refine x_widen (cu' := 56 + 5 * (k + 1)) (su' := 44674 + 47 * (k + 1)) (by omega) (by omega) ?_
  exact K _ (J.join hCP hRP hG hD2)
set_option maxRecDepth 20000 in
theorem law_8 (hL : bx.2.1 ≤ 3072) {k x y : Nat} (hJ : J x y t) (hk : k ≤ 511) (h6 : 6 * (k : Int) + 6 ≤ (bx.2.1 : Int)) (K : ∀ t, J x y t → zL bx (56 + 5 * (k + 1)) (44674 + 47 * (k + 1)) 1295 [(3, vI (6 * (k : Int))), (2, vR (some y)), (1, vR (some x)), (0, vR (some bx.1))] [] t) : zL bx (56 + 5 * k) (44674 + 47 * k) 424 [(3, vI (6 * (k : Int))), (2, vR (some y)), (1, vR (some x)), (0, vR (some bx.1))] [] t := by
  obtain ⟨M, F, g, a, tC, tR, rfl, hR, hC, hX, hG, rfl, hD⟩ := hJ
  have hxC : a 0 0 ∈ tL (glue tC tR) := List.mem_append_left _ (hC.lv 0 0 (by decide) l0).1
  have hkC : tK (glue tC tR) (a 0 0) = 3 := (glue_C (hD _ (hC.lv 0 0 (by decide) l0).1)).1.trans (hC.lv 0 0 (by decide) l0).2.1
  refine x_aload_n 425 dL_law_424 rfl rfl ?_
  refine x_aload_n 426 dL_law_425 rfl rfl ?_
  refine x_iload_n 427 dL_law_426 rfl rfl ?_
  refine x_iconst 428 dL_law_427 rfl ?_
  refine x_iadd 429 dL_law_428 rfl ?_
  refine x_sld 430 ⟨by omega, by omega⟩ hL rfl dL_law_429 rfl ?_
  refine x_aload_n 431 dL_law_430 rfl rfl ?_
  refine x_iload_n 432 dL_law_431 rfl rfl ?_
  refine x_iconst 433 dL_law_432 rfl ?_
  refine x_iadd 434 dL_law_433 rfl ?_
  refine x_sld 435 ⟨by omega, by omega⟩ hL rfl dL_law_434 rfl ?_
  refine x_callV 438 [_, _] la_X3_part ml_L_49 im_X3_part se_X3_part hxC hkC (by decide) rfl rfl (c_part hC zi_i32 zi_i32 hG.1 hX).glueL rfl rfl (by decide) (Nat.le_of_ble_eq_true rfl) (by omega) (by omega) dL_law_435 rfl (fun r t hq => ?_)
  obtain ⟨t1, ⟨rfl, hCP⟩, rfl, hD1⟩ := hq
  refine x_aload_n 439 dL_law_438 rfl rfl ?_
  refine x_aload_n 440 dL_law_439 rfl rfl ?_
  refine x_iload_n 441 dL_law_440 rfl rfl ?_
  refine x_iconst 442 dL_law_441 rfl ?_
  refine x_iadd 443 dL_law_442 rfl ?_
  refine x_sld 444 ⟨by omega, by omega⟩ hL rfl dL_law_443 rfl ?_
  refine x_aload_n 445 dL_law_444 rfl rfl ?_
  refine x_iload_n 446 dL_law_445 rfl rfl ?_
  refine x_iconst 447 dL_law_446 rfl ?_
  refine x_iadd 448 dL_law_447 rfl ?_
  refine x_sld 449 ⟨by omega, by omega⟩ hL rfl dL_law_448 rfl ?_
  refine x_callV 452 [_, _] la_X4_part ml_L_52 im_X4_part se_X4_part (List.mem_append_right _ hR.1.1) ((glue_R hR.1.1).1.trans hR.1.2.1) (by decide) rfl rfl (r_part hR zi_i32 zi_i32 hG.1).glueR rfl rfl (by decide) (Nat.le_of_ble_eq_true rfl) (by omega) (by omega) dL_law_449 rfl (fun r t hq => ?_)
  obtain ⟨t2, ⟨rfl, hRP⟩, rfl, hD2⟩ := hq
  refine x_icmp_same 1295 dL_law_452 (by decide) ?_
  refine x_widen (cu' := 56 + 5 * (k + 1)) (su' := 44674 + 47 * (k + 1)) (by omega) (by omega) ?_
  exact K _ (J.join hCP ⟨_, _, hRP, eqs.rf⟩ hG hD2)
set_option maxRecDepth 20000 in
theorem law_9 (hL : bx.2.1 ≤ 3072) {k x y : Nat} (hJ : J x y t) (hk : k ≤ 511) (h6 : 6 * (k : Int) + 6 ≤ (bx.2.1 : Int)) (K : ∀ t, J x y t → zL bx (56 + 5 * (k + 1)) (44674 + 47 * (k + 1)) 1295 [(3, vI (6 * (k : Int))), (2, vR (some y)), (1, vR (some x)), (0, vR (some bx.1))] [] t) : zL bx (56 + 5 * k) (44674 + 47 * k) 457 [(3, vI (6 * (k : Int))), (2, vR (some y)), (1, vR (some x)), (0, vR (some bx.1))] [] t := by
  obtain ⟨M, F, g, a, tC, tR, rfl, hR, hC, hX, hG, rfl, hD⟩ := hJ
  have hxC : a 0 0 ∈ tL (glue tC tR) := List.mem_append_left _ (hC.lv 0 0 (by decide) l0).1
  have hkC : tK (glue tC tR) (a 0 0) = 3 := (glue_C (hD _ (hC.lv 0 0 (by decide) l0).1)).1.trans (hC.lv 0 0 (by decide) l0).2.1
  refine x_aload_n 458 dL_law_457 rfl rfl ?_
  refine x_aload_n 459 dL_law_458 rfl rfl ?_
  refine x_iload_n 460 dL_law_459 rfl rfl ?_
  refine x_iconst 461 dL_law_460 rfl ?_
  refine x_iadd 462 dL_law_461 rfl ?_
  refine x_sld 463 ⟨by omega, by omega⟩ hL rfl dL_law_462 rfl ?_
  refine x_callV 466 [_] la_X3_count ml_L_53 im_X3_count se_X3_count hxC hkC (by decide) rfl rfl (c_count hC zi_i32 hG.1 hX).glueL rfl rfl (by decide) (Nat.le_of_ble_eq_true rfl) (by omega) (by omega) dL_law_463 rfl (fun r t hq => ?_)
  obtain ⟨t1, ⟨rfl, hCP⟩, rfl, hD1⟩ := hq
  refine x_aload_n 467 dL_law_466 rfl rfl ?_
  refine x_aload_n 468 dL_law_467 rfl rfl ?_
  refine x_iload_n 469 dL_law_468 rfl rfl ?_
  refine x_iconst 470 dL_law_469 rfl ?_
  refine x_iadd 471 dL_law_470 rfl ?_
  refine x_sld 472 ⟨by omega, by omega⟩ hL rfl dL_law_471 rfl ?_
  refine x_callV 475 [_] la_X4_count ml_L_56 im_X4_count se_X4_count (List.mem_append_right _ hR.1.1) ((glue_R hR.1.1).1.trans hR.1.2.1) (by decide) rfl rfl (r_count hR zi_i32 hG.1).glueR rfl rfl (by decide) (Nat.le_of_ble_eq_true rfl) (by omega) (by omega) dL_law_472 rfl (fun r t hq => ?_)
  obtain ⟨t2, ⟨rfl, hRP⟩, rfl, hD2⟩ := hq
  refine x_icmp_same 1295 dL_law_475 (by decide) ?_
  refine x_widen (cu' := 56 + 5 * (k + 1)) (su' := 44674 + 47 * (k + 1)) (by omega) (by omega) ?_
  exact K _ (J.join hCP ⟨_, _, hRP, eqs.rf⟩ hG hD2)
set_option maxRecDepth 20000 in
theorem law_10 (hL : bx.2.1 ≤ 3072) {k x y : Nat} (hJ : J x y t) (hk : k ≤ 511) (h6 : 6 * (k : Int) + 6 ≤ (bx.2.1 : Int)) (K : ∀ t, J x y t → zL bx (56 + 5 * (k + 1)) (44674 + 47 * (k + 1)) 1295 [(3, vI (6 * (k : Int))), (2, vR (some y)), (1, vR (some x)), (0, vR (some bx.1))] [] t) : zL bx (56 + 5 * k) (44674 + 47 * k) 480 [(3, vI (6 * (k : Int))), (2, vR (some y)), (1, vR (some x)), (0, vR (some bx.1))] [] t := by
  obtain ⟨M, F, g, a, tC, tR, rfl, hR, hC, hX, hG, rfl, hD⟩ := hJ
  have hxC : a 0 0 ∈ tL (glue tC tR) := List.mem_append_left _ (hC.lv 0 0 (by decide) l0).1
  have hkC : tK (glue tC tR) (a 0 0) = 3 := (glue_C (hD _ (hC.lv 0 0 (by decide) l0).1)).1.trans (hC.lv 0 0 (by decide) l0).2.1
  refine x_aload_n 481 dL_law_480 rfl rfl ?_
  refine x_aload_n 482 dL_law_481 rfl rfl ?_
  refine x_iload_n 483 dL_law_482 rfl rfl ?_
  refine x_iconst 484 dL_law_483 rfl ?_
  refine x_iadd 485 dL_law_484 rfl ?_
  refine x_sld 486 ⟨by omega, by omega⟩ hL rfl dL_law_485 rfl ?_
  refine x_aload_n 487 dL_law_486 rfl rfl ?_
  refine x_iload_n 488 dL_law_487 rfl rfl ?_
  refine x_iconst 489 dL_law_488 rfl ?_
  refine x_iadd 490 dL_law_489 rfl ?_
  refine x_sld 491 ⟨by omega, by omega⟩ hL rfl dL_law_490 rfl ?_
  refine x_callV 494 [_, _] la_X3_row ml_L_57 im_X3_row se_X3_row hxC hkC (by decide) rfl rfl (c_row hC zi_i32 zi_i32 hG.1 hX).glueL rfl rfl (by decide) (Nat.le_of_ble_eq_true rfl) (by omega) (by omega) dL_law_491 rfl (fun r t hq => ?_)
  obtain ⟨t1, ⟨rfl, hCP⟩, rfl, hD1⟩ := hq
  refine x_aload_n 495 dL_law_494 rfl rfl ?_
  refine x_aload_n 496 dL_law_495 rfl rfl ?_
  refine x_iload_n 497 dL_law_496 rfl rfl ?_
  refine x_iconst 498 dL_law_497 rfl ?_
  refine x_iadd 499 dL_law_498 rfl ?_
  refine x_sld 500 ⟨by omega, by omega⟩ hL rfl dL_law_499 rfl ?_
  refine x_aload_n 501 dL_law_500 rfl rfl ?_
  refine x_iload_n 502 dL_law_501 rfl rfl ?_
  refine x_iconst 503 dL_law_502 rfl ?_
  refine x_iadd 504 dL_law_503 rfl ?_
  refine x_sld 505 ⟨by omega, by omega⟩ hL rfl dL_law_504 rfl ?_
  refine x_callV 508 [_, _] la_X4_row ml_L_60 im_X4_row se_X4_row (List.mem_append_right _ hR.1.1) ((glue_R hR.1.1).1.trans hR.1.2.1) (by decide) rfl rfl (r_row hR zi_i32 zi_i32 hG.1).glueR rfl rfl (by decide) (Nat.le_of_ble_eq_true rfl) (by omega) (by omega) dL_law_505 rfl (fun r t hq => ?_)
  obtain ⟨t2, ⟨rfl, hRP⟩, rfl, hD2⟩ := hq
  refine x_icmp_same 1295 dL_law_508 (by decide) ?_
  refine x_widen (cu' := 56 + 5 * (k + 1)) (su' := 44674 + 47 * (k + 1)) (by omega) (by omega) ?_
  exact K _ (J.join hCP ⟨_, _, hRP, eqs.rf⟩ hG.krow hD2)
set_option maxRecDepth 20000 in
theorem law_11 (hL : bx.2.1 ≤ 3072) {k x y : Nat} (hJ : J x y t) (hk : k ≤ 511) (h6 : 6 * (k : Int) + 6 ≤ (bx.2.1 : Int)) (K : ∀ t, J x y t → zL bx (56 + 5 * (k + 1)) (44674 + 47 * (k + 1)) 1295 [(3, vI (6 * (k : Int))), (2, vR (some y)), (1, vR (some x)), (0, vR (some bx.1))] [] t) : zL bx (56 + 5 * k) (44674 + 47 * k) 513 [(3, vI (6 * (k : Int))), (2, vR (some y)), (1, vR (some x)), (0, vR (some bx.1))] [] t := by
  obtain ⟨M, F, g, a, tC, tR, rfl, hR, hC, hX, hG, rfl, hD⟩ := hJ
  have hxC : a 0 0 ∈ tL (glue tC tR) := List.mem_append_left _ (hC.lv 0 0 (by decide) l0).1
  have hkC : tK (glue tC tR) (a 0 0) = 3 := (glue_C (hD _ (hC.lv 0 0 (by decide) l0).1)).1.trans (hC.lv 0 0 (by decide) l0).2.1
  refine x_aload_n 514 dL_law_513 rfl rfl ?_
  refine x_aload_n 515 dL_law_514 rfl rfl ?_
  refine x_iload_n 516 dL_law_515 rfl rfl ?_
  refine x_iconst 517 dL_law_516 rfl ?_
  refine x_iadd 518 dL_law_517 rfl ?_
  refine x_sld 519 ⟨by omega, by omega⟩ hL rfl dL_law_518 rfl ?_
  refine x_callV 522 [_] la_X3_lose ml_L_61 im_X3_lose se_X3_lose hxC hkC (by decide) rfl rfl (c_lose hC zi_i32 hG.1 hX).glueL rfl rfl (by decide) (Nat.le_of_ble_eq_true rfl) (by omega) (by omega) dL_law_519 rfl (fun r t hq => ?_)
  obtain ⟨t1, ⟨rfl, hCP⟩, rfl, hD1⟩ := hq
  refine x_aload_n 523 dL_law_522 rfl rfl ?_
  refine x_aload_n 524 dL_law_523 rfl rfl ?_
  refine x_iload_n 525 dL_law_524 rfl rfl ?_
  refine x_iconst 526 dL_law_525 rfl ?_
  refine x_iadd 527 dL_law_526 rfl ?_
  refine x_sld 528 ⟨by omega, by omega⟩ hL rfl dL_law_527 rfl ?_
  refine x_callV 531 [_] la_X4_lose ml_L_64 im_X4_lose se_X4_lose (List.mem_append_right _ hR.1.1) ((glue_R hR.1.1).1.trans hR.1.2.1) (by decide) rfl rfl (r_lose hR zi_i32 hG.1).glueR rfl rfl (by decide) (Nat.le_of_ble_eq_true rfl) (by omega) (by omega) dL_law_528 rfl (fun r t hq => ?_)
  obtain ⟨t2, ⟨rfl, hRP⟩, rfl, hD2⟩ := hq
  refine x_icmp_same 1295 dL_law_531 (by decide) ?_
  refine x_widen (cu' := 56 + 5 * (k + 1)) (su' := 44674 + 47 * (k + 1)) (by omega) (by omega) ?_
  exact K _ (J.join hCP ⟨_, _, hRP, eqs.rf⟩ hG.klose hD2)
set_option maxRecDepth 20000 in
theorem law_12 (hL : bx.2.1 ≤ 3072) {k x y : Nat} (hJ : J x y t) (hk : k ≤ 511) (h6 : 6 * (k : Int) + 6 ≤ (bx.2.1 : Int)) (K : ∀ t, J x y t → zL bx (56 + 5 * (k + 1)) (44674 + 47 * (k + 1)) 1295 [(3, vI (6 * (k : Int))), (2, vR (some y)), (1, vR (some x)), (0, vR (some bx.1))] [] t) : zL bx (56 + 5 * k) (44674 + 47 * k) 536 [(3, vI (6 * (k : Int))), (2, vR (some y)), (1, vR (some x)), (0, vR (some bx.1))] [] t := by
  obtain ⟨M, F, g, a, tC, tR, rfl, hR, hC, hX, hG, rfl, hD⟩ := hJ
  have hxC : a 0 0 ∈ tL (glue tC tR) := List.mem_append_left _ (hC.lv 0 0 (by decide) l0).1
  have hkC : tK (glue tC tR) (a 0 0) = 3 := (glue_C (hD _ (hC.lv 0 0 (by decide) l0).1)).1.trans (hC.lv 0 0 (by decide) l0).2.1
  refine x_aload_n 537 dL_law_536 rfl rfl ?_
  refine x_aload_n 538 dL_law_537 rfl rfl ?_
  refine x_iload_n 539 dL_law_538 rfl rfl ?_
  refine x_iconst 540 dL_law_539 rfl ?_
  refine x_iadd 541 dL_law_540 rfl ?_
  refine x_sld 542 ⟨by omega, by omega⟩ hL rfl dL_law_541 rfl ?_
  refine x_aload_n 543 dL_law_542 rfl rfl ?_
  refine x_iload_n 544 dL_law_543 rfl rfl ?_
  refine x_iconst 545 dL_law_544 rfl ?_
  refine x_iadd 546 dL_law_545 rfl ?_
  refine x_sld 547 ⟨by omega, by omega⟩ hL rfl dL_law_546 rfl ?_
  refine x_aload_n 548 dL_law_547 rfl rfl ?_
  refine x_iload_n 549 dL_law_548 rfl rfl ?_
  refine x_iconst 550 dL_law_549 rfl ?_
  refine x_iadd 551 dL_law_550 rfl ?_
  refine x_sld 552 ⟨by omega, by omega⟩ hL rfl dL_law_551 rfl ?_
  refine x_aload_n 553 dL_law_552 rfl rfl ?_
  refine x_iload_n 554 dL_law_553 rfl rfl ?_
  refine x_iconst 555 dL_law_554 rfl ?_
  refine x_iadd 556 dL_law_555 rfl ?_
  refine x_sld 557 ⟨by omega, by omega⟩ hL rfl dL_law_556 rfl ?_
  refine x_aload_n 558 dL_law_557 rfl rfl ?_
  refine x_iload_n 559 dL_law_558 rfl rfl ?_
  refine x_iconst 560 dL_law_559 rfl ?_
  refine x_iadd 561 dL_law_560 rfl ?_
  refine x_sld 562 ⟨by omega, by omega⟩ hL rfl dL_law_561 rfl ?_
  refine x_callV 565 [_, _, _, _, _] la_X3_spot ml_L_65 im_X3_spot se_X3_spot hxC hkC (by decide) rfl rfl (c_spot hC zi_i32 zi_i32 zi_i32 zi_i32 zi_i32 hG.1 hX).glueL rfl rfl (by decide) (Nat.le_of_ble_eq_true rfl) (by omega) (by omega) dL_law_562 rfl (fun r t hq => ?_)
  obtain ⟨t1, ⟨rfl, hCP⟩, rfl, hD1⟩ := hq
  refine x_aload_n 566 dL_law_565 rfl rfl ?_
  refine x_aload_n 567 dL_law_566 rfl rfl ?_
  refine x_iload_n 568 dL_law_567 rfl rfl ?_
  refine x_iconst 569 dL_law_568 rfl ?_
  refine x_iadd 570 dL_law_569 rfl ?_
  refine x_sld 571 ⟨by omega, by omega⟩ hL rfl dL_law_570 rfl ?_
  refine x_aload_n 572 dL_law_571 rfl rfl ?_
  refine x_iload_n 573 dL_law_572 rfl rfl ?_
  refine x_iconst 574 dL_law_573 rfl ?_
  refine x_iadd 575 dL_law_574 rfl ?_
  refine x_sld 576 ⟨by omega, by omega⟩ hL rfl dL_law_575 rfl ?_
  refine x_aload_n 577 dL_law_576 rfl rfl ?_
  refine x_iload_n 578 dL_law_577 rfl rfl ?_
  refine x_iconst 579 dL_law_578 rfl ?_
  refine x_iadd 580 dL_law_579 rfl ?_
  refine x_sld 581 ⟨by omega, by omega⟩ hL rfl dL_law_580 rfl ?_
  refine x_aload_n 582 dL_law_581 rfl rfl ?_
  refine x_iload_n 583 dL_law_582 rfl rfl ?_
  refine x_iconst 584 dL_law_583 rfl ?_
  refine x_iadd 585 dL_law_584 rfl ?_
  refine x_sld 586 ⟨by omega, by omega⟩ hL rfl dL_law_585 rfl ?_
  refine x_aload_n 587 dL_law_586 rfl rfl ?_
  refine x_iload_n 588 dL_law_587 rfl rfl ?_
  refine x_iconst 589 dL_law_588 rfl ?_
  refine x_iadd 590 dL_law_589 rfl ?_
  refine x_sld 591 ⟨by omega, by omega⟩ hL rfl dL_law_590 rfl ?_
  refine x_callV 594 [_, _, _, _, _] la_X4_spot ml_L_69 im_X4_spot se_X4_spot (List.mem_append_right _ hR.1.1) ((glue_R hR.1.1).1.trans hR.1.2.1) (by decide) rfl rfl (r_spot hR zi_i32 zi_i32 zi_i32 zi_i32 zi_i32 hG.1).glueR rfl rfl (by decide) (Nat.le_of_ble_eq_true rfl) (by omega) (by omega) dL_law_591 rfl (fun r t hq => ?_)
  obtain ⟨t2, ⟨rfl, hRP⟩, rfl, hD2⟩ := hq
  refine x_icmp_same 1295 dL_law_594 (by decide) ?_
  refine x_widen (cu' := 56 + 5 * (k + 1)) (su' := 44674 + 47 * (k + 1)) (by omega) (by omega) ?_
  exact K _ (J.join hCP ⟨_, _, hRP, eqs.rf⟩ hG.kspot hD2)
set_option maxRecDepth 20000 in
theorem law_13 (hL : bx.2.1 ≤ 3072) {k x y : Nat} (hJ : J x y t) (hk : k ≤ 511) (h6 : 6 * (k : Int) + 6 ≤ (bx.2.1 : Int)) (K : ∀ t, J x y t → zL bx (56 + 5 * (k + 1)) (44674 + 47 * (k + 1)) 1295 [(3, vI (6 * (k : Int))), (2, vR (some y)), (1, vR (some x)), (0, vR (some bx.1))] [] t) : zL bx (56 + 5 * k) (44674 + 47 * k) 599 [(3, vI (6 * (k : Int))), (2, vR (some y)), (1, vR (some x)), (0, vR (some bx.1))] [] t := by
  obtain ⟨M, F, g, a, tC, tR, rfl, hR, hC, hX, hG, rfl, hD⟩ := hJ
  have hxC : a 0 0 ∈ tL (glue tC tR) := List.mem_append_left _ (hC.lv 0 0 (by decide) l0).1
  have hkC : tK (glue tC tR) (a 0 0) = 3 := (glue_C (hD _ (hC.lv 0 0 (by decide) l0).1)).1.trans (hC.lv 0 0 (by decide) l0).2.1
  refine x_aload_n 600 dL_law_599 rfl rfl ?_
  refine x_aload_n 601 dL_law_600 rfl rfl ?_
  refine x_iload_n 602 dL_law_601 rfl rfl ?_
  refine x_iconst 603 dL_law_602 rfl ?_
  refine x_iadd 604 dL_law_603 rfl ?_
  refine x_sld 605 ⟨by omega, by omega⟩ hL rfl dL_law_604 rfl ?_
  refine x_aload_n 606 dL_law_605 rfl rfl ?_
  refine x_iload_n 607 dL_law_606 rfl rfl ?_
  refine x_iconst 608 dL_law_607 rfl ?_
  refine x_iadd 609 dL_law_608 rfl ?_
  refine x_sld 610 ⟨by omega, by omega⟩ hL rfl dL_law_609 rfl ?_
  refine x_aload_n 611 dL_law_610 rfl rfl ?_
  refine x_iload_n 612 dL_law_611 rfl rfl ?_
  refine x_iconst 613 dL_law_612 rfl ?_
  refine x_iadd 614 dL_law_613 rfl ?_
  refine x_sld 615 ⟨by omega, by omega⟩ hL rfl dL_law_614 rfl ?_
  refine x_aload_n 616 dL_law_615 rfl rfl ?_
  refine x_iload_n 617 dL_law_616 rfl rfl ?_
  refine x_iconst 618 dL_law_617 rfl ?_
  refine x_iadd 619 dL_law_618 rfl ?_
  refine x_sld 620 ⟨by omega, by omega⟩ hL rfl dL_law_619 rfl ?_
  refine x_aload_n 621 dL_law_620 rfl rfl ?_
  refine x_iload_n 622 dL_law_621 rfl rfl ?_
  refine x_iconst 623 dL_law_622 rfl ?_
  refine x_iadd 624 dL_law_623 rfl ?_
  refine x_sld 625 ⟨by omega, by omega⟩ hL rfl dL_law_624 rfl ?_
  refine x_callV 628 [_, _, _, _, _] la_X3_carry ml_L_70 im_X3_carry se_X3_carry hxC hkC (by decide) rfl rfl (c_carry hC zi_i32 zi_i32 zi_i32 zi_i32 zi_i32 hG.1 hX).glueL rfl rfl (by decide) (Nat.le_of_ble_eq_true rfl) (by omega) (by omega) dL_law_625 rfl (fun r t hq => ?_)
  obtain ⟨t1, ⟨rfl, hCP⟩, rfl, hD1⟩ := hq
  refine x_aload_n 629 dL_law_628 rfl rfl ?_
  refine x_aload_n 630 dL_law_629 rfl rfl ?_
  refine x_iload_n 631 dL_law_630 rfl rfl ?_
  refine x_iconst 632 dL_law_631 rfl ?_
  refine x_iadd 633 dL_law_632 rfl ?_
  refine x_sld 634 ⟨by omega, by omega⟩ hL rfl dL_law_633 rfl ?_
  refine x_aload_n 635 dL_law_634 rfl rfl ?_
  refine x_iload_n 636 dL_law_635 rfl rfl ?_
  refine x_iconst 637 dL_law_636 rfl ?_
  refine x_iadd 638 dL_law_637 rfl ?_
  refine x_sld 639 ⟨by omega, by omega⟩ hL rfl dL_law_638 rfl ?_
  refine x_aload_n 640 dL_law_639 rfl rfl ?_
  refine x_iload_n 641 dL_law_640 rfl rfl ?_
  refine x_iconst 642 dL_law_641 rfl ?_
  refine x_iadd 643 dL_law_642 rfl ?_
  refine x_sld 644 ⟨by omega, by omega⟩ hL rfl dL_law_643 rfl ?_
  refine x_aload_n 645 dL_law_644 rfl rfl ?_
  refine x_iload_n 646 dL_law_645 rfl rfl ?_
  refine x_iconst 647 dL_law_646 rfl ?_
  refine x_iadd 648 dL_law_647 rfl ?_
  refine x_sld 649 ⟨by omega, by omega⟩ hL rfl dL_law_648 rfl ?_
  refine x_aload_n 650 dL_law_649 rfl rfl ?_
  refine x_iload_n 651 dL_law_650 rfl rfl ?_
  refine x_iconst 652 dL_law_651 rfl ?_
  refine x_iadd 653 dL_law_652 rfl ?_
  refine x_sld 654 ⟨by omega, by omega⟩ hL rfl dL_law_653 rfl ?_
  refine x_callV 657 [_, _, _, _, _] la_X4_carry ml_L_73 im_X4_carry se_X4_carry (List.mem_append_right _ hR.1.1) ((glue_R hR.1.1).1.trans hR.1.2.1) (by decide) rfl rfl (r_carry hR zi_i32 zi_i32 zi_i32 zi_i32 zi_i32 hG.1).glueR rfl rfl (by decide) (Nat.le_of_ble_eq_true rfl) (by omega) (by omega) dL_law_654 rfl (fun r t hq => ?_)
  obtain ⟨t2, ⟨rfl, hRP⟩, rfl, hD2⟩ := hq
  refine x_icmp_same 1295 dL_law_657 (by decide) ?_
  refine x_widen (cu' := 56 + 5 * (k + 1)) (su' := 44674 + 47 * (k + 1)) (by omega) (by omega) ?_
  exact K _ (J.join hCP hRP hG.kcar hD2)
set_option maxRecDepth 20000 in
theorem law_14 (hL : bx.2.1 ≤ 3072) {k x y : Nat} (hJ : J x y t) (hk : k ≤ 511) (h6 : 6 * (k : Int) + 6 ≤ (bx.2.1 : Int)) (K : ∀ t, J x y t → zL bx (56 + 5 * (k + 1)) (44674 + 47 * (k + 1)) 1295 [(3, vI (6 * (k : Int))), (2, vR (some y)), (1, vR (some x)), (0, vR (some bx.1))] [] t) : zL bx (56 + 5 * k) (44674 + 47 * k) 662 [(3, vI (6 * (k : Int))), (2, vR (some y)), (1, vR (some x)), (0, vR (some bx.1))] [] t := by
  obtain ⟨M, F, g, a, tC, tR, rfl, hR, hC, hX, hG, rfl, hD⟩ := hJ
  have hxC : a 0 0 ∈ tL (glue tC tR) := List.mem_append_left _ (hC.lv 0 0 (by decide) l0).1
  have hkC : tK (glue tC tR) (a 0 0) = 3 := (glue_C (hD _ (hC.lv 0 0 (by decide) l0).1)).1.trans (hC.lv 0 0 (by decide) l0).2.1
  refine x_aload_n 663 dL_law_662 rfl rfl ?_
  refine x_aload_n 664 dL_law_663 rfl rfl ?_
  refine x_iload_n 665 dL_law_664 rfl rfl ?_
  refine x_iconst 666 dL_law_665 rfl ?_
  refine x_iadd 667 dL_law_666 rfl ?_
  refine x_sld 668 ⟨by omega, by omega⟩ hL rfl dL_law_667 rfl ?_
  refine x_aload_n 669 dL_law_668 rfl rfl ?_
  refine x_iload_n 670 dL_law_669 rfl rfl ?_
  refine x_iconst 671 dL_law_670 rfl ?_
  refine x_iadd 672 dL_law_671 rfl ?_
  refine x_sld 673 ⟨by omega, by omega⟩ hL rfl dL_law_672 rfl ?_
  refine x_callV 676 [_, _] la_X3_bears ml_L_74 im_X3_bears se_X3_bears hxC hkC (by decide) rfl rfl (c_bears hC zi_i32 zi_i32 hG.1 hX).glueL rfl rfl (by decide) (Nat.le_of_ble_eq_true rfl) (by omega) (by omega) dL_law_673 rfl (fun r t hq => ?_)
  obtain ⟨t1, ⟨rfl, hCP⟩, rfl, hD1⟩ := hq
  refine x_dstore (lv' := [(4, _), (3, _), (2, _), (1, _), (0, _)]) 678 dL_law_676 rfl rfl rfl ?_
  refine x_aload_n 679 dL_law_678 rfl rfl ?_
  refine x_aload_n 680 dL_law_679 rfl rfl ?_
  refine x_iload_n 681 dL_law_680 rfl rfl ?_
  refine x_iconst 682 dL_law_681 rfl ?_
  refine x_iadd 683 dL_law_682 rfl ?_
  refine x_sld 684 ⟨by omega, by omega⟩ hL rfl dL_law_683 rfl ?_
  refine x_aload_n 685 dL_law_684 rfl rfl ?_
  refine x_iload_n 686 dL_law_685 rfl rfl ?_
  refine x_iconst 687 dL_law_686 rfl ?_
  refine x_iadd 688 dL_law_687 rfl ?_
  refine x_sld 689 ⟨by omega, by omega⟩ hL rfl dL_law_688 rfl ?_
  refine x_callV 692 [_, _] la_X4_bears ml_L_78 im_X4_bears se_X4_bears (List.mem_append_right _ hR.1.1) ((glue_R hR.1.1).1.trans hR.1.2.1) (by decide) rfl rfl (r_bears hR zi_i32 zi_i32 hG.1).glueR rfl rfl (by decide) (Nat.le_of_ble_eq_true rfl) (by omega) (by omega) dL_law_689 rfl (fun r t hq => ?_)
  obtain ⟨t2, ⟨rfl, hRP⟩, rfl, hD2⟩ := hq
  refine x_dstore (lv' := [(6, _), (4, _), (3, _), (2, _), (1, _), (0, _)]) 694 dL_law_692 rfl rfl rfl ?_
  refine x_dload 696 dL_law_694 rfl rfl ?_
  refine x_dload 698 dL_law_696 rfl rfl ?_
  refine x_dcmp 699 dL_law_698 rfl ?_
  refine x_if_eq 720 702 dL_law_699 (by decide) rfl zfc_i (fun h1 => ?_) (fun h1 => ?_)
  · refine x_goto 1295 dL_law_720 (by decide) ?_
    refine x_sub (lv' := [(3, _), (2, _), (1, _), (0, _)]) ⟨rfl, rfl, rfl, rfl, trivial⟩ ?_
    refine x_widen (cu' := 56 + 5 * (k + 1)) (su' := 44674 + 47 * (k + 1)) (by omega) (by omega) ?_
    exact K _ (J.join hCP hRP hG hD2)
  · refine x_dload 704 dL_law_702 rfl rfl ?_
    refine x_dload 706 dL_law_704 rfl rfl ?_
    refine x_dcmp 707 dL_law_706 rfl ?_
    refine x_if_eq 718 710 dL_law_707 (by decide) rfl zfc_i (fun h2 => absurd h2 h1) (fun h2 => ?_)
    refine x_dload 712 dL_law_710 rfl rfl ?_
    refine x_dload 714 dL_law_712 rfl rfl ?_
    refine x_dcmp 715 dL_law_714 rfl ?_
    refine x_if_ne 720 718 dL_law_715 (by decide) rfl zfc_i (fun h3 => ?_) (fun h3 => absurd h1 h3)
    refine x_goto 1295 dL_law_720 (by decide) ?_
    refine x_sub (lv' := [(3, _), (2, _), (1, _), (0, _)]) ⟨rfl, rfl, rfl, rfl, trivial⟩ ?_
    refine x_widen (cu' := 56 + 5 * (k + 1)) (su' := 44674 + 47 * (k + 1)) (by omega) (by omega) ?_
    exact K _ (J.join hCP hRP hG hD2)
set_option maxRecDepth 20000 in
theorem law_15 (hL : bx.2.1 ≤ 3072) {k x y : Nat} (hJ : J x y t) (hk : k ≤ 511) (h6 : 6 * (k : Int) + 6 ≤ (bx.2.1 : Int)) (K : ∀ t, J x y t → zL bx (56 + 5 * (k + 1)) (44674 + 47 * (k + 1)) 1295 [(3, vI (6 * (k : Int))), (2, vR (some y)), (1, vR (some x)), (0, vR (some bx.1))] [] t) : zL bx (56 + 5 * k) (44674 + 47 * k) 723 [(3, vI (6 * (k : Int))), (2, vR (some y)), (1, vR (some x)), (0, vR (some bx.1))] [] t := by
  obtain ⟨M, F, g, a, tC, tR, rfl, hR, hC, hX, hG, rfl, hD⟩ := hJ
  have hxC : a 0 0 ∈ tL (glue tC tR) := List.mem_append_left _ (hC.lv 0 0 (by decide) l0).1
  have hkC : tK (glue tC tR) (a 0 0) = 3 := (glue_C (hD _ (hC.lv 0 0 (by decide) l0).1)).1.trans (hC.lv 0 0 (by decide) l0).2.1
  refine x_aload_n 724 dL_law_723 rfl rfl ?_
  refine x_aload_n 725 dL_law_724 rfl rfl ?_
  refine x_iload_n 726 dL_law_725 rfl rfl ?_
  refine x_iconst 727 dL_law_726 rfl ?_
  refine x_iadd 728 dL_law_727 rfl ?_
  refine x_sld 729 ⟨by omega, by omega⟩ hL rfl dL_law_728 rfl ?_
  refine x_callV 732 [_] la_X3_least ml_L_79 im_X3_least se_X3_least hxC hkC (by decide) rfl rfl (c_least hC zi_i32 hG.1 hX).glueL rfl rfl (by decide) (Nat.le_of_ble_eq_true rfl) (by omega) (by omega) dL_law_729 rfl (fun r t hq => ?_)
  obtain ⟨t1, ⟨rfl, hCP⟩, rfl, hD1⟩ := hq
  refine x_dstore (lv' := [(4, _), (3, _), (2, _), (1, _), (0, _)]) 734 dL_law_732 rfl rfl rfl ?_
  refine x_aload_n 735 dL_law_734 rfl rfl ?_
  refine x_aload_n 736 dL_law_735 rfl rfl ?_
  refine x_iload_n 737 dL_law_736 rfl rfl ?_
  refine x_iconst 738 dL_law_737 rfl ?_
  refine x_iadd 739 dL_law_738 rfl ?_
  refine x_sld 740 ⟨by omega, by omega⟩ hL rfl dL_law_739 rfl ?_
  refine x_callV 743 [_] la_X4_least ml_L_83 im_X4_least se_X4_least (List.mem_append_right _ hR.1.1) ((glue_R hR.1.1).1.trans hR.1.2.1) (by decide) rfl rfl (r_least hR zi_i32 hG.1).glueR rfl rfl (by decide) (Nat.le_of_ble_eq_true rfl) (by omega) (by omega) dL_law_740 rfl (fun r t hq => ?_)
  obtain ⟨t2, ⟨rfl, hRP⟩, rfl, hD2⟩ := hq
  refine x_dstore (lv' := [(6, _), (4, _), (3, _), (2, _), (1, _), (0, _)]) 745 dL_law_743 rfl rfl rfl ?_
  refine x_dload 747 dL_law_745 rfl rfl ?_
  refine x_dload 749 dL_law_747 rfl rfl ?_
  refine x_dcmp 750 dL_law_749 rfl ?_
  refine x_if_eq 771 753 dL_law_750 (by decide) rfl zfc_i (fun h1 => ?_) (fun h1 => ?_)
  · refine x_goto 1295 dL_law_771 (by decide) ?_
    refine x_sub (lv' := [(3, _), (2, _), (1, _), (0, _)]) ⟨rfl, rfl, rfl, rfl, trivial⟩ ?_
    refine x_widen (cu' := 56 + 5 * (k + 1)) (su' := 44674 + 47 * (k + 1)) (by omega) (by omega) ?_
    exact K _ (J.join hCP hRP hG hD2)
  · refine x_dload 755 dL_law_753 rfl rfl ?_
    refine x_dload 757 dL_law_755 rfl rfl ?_
    refine x_dcmp 758 dL_law_757 rfl ?_
    refine x_if_eq 769 761 dL_law_758 (by decide) rfl zfc_i (fun h2 => absurd h2 h1) (fun h2 => ?_)
    refine x_dload 763 dL_law_761 rfl rfl ?_
    refine x_dload 765 dL_law_763 rfl rfl ?_
    refine x_dcmp 766 dL_law_765 rfl ?_
    refine x_if_ne 771 769 dL_law_766 (by decide) rfl zfc_i (fun h3 => ?_) (fun h3 => absurd h1 h3)
    refine x_goto 1295 dL_law_771 (by decide) ?_
    refine x_sub (lv' := [(3, _), (2, _), (1, _), (0, _)]) ⟨rfl, rfl, rfl, rfl, trivial⟩ ?_
    refine x_widen (cu' := 56 + 5 * (k + 1)) (su' := 44674 + 47 * (k + 1)) (by omega) (by omega) ?_
    exact K _ (J.join hCP hRP hG hD2)
set_option maxRecDepth 20000 in
theorem law_16 (hL : bx.2.1 ≤ 3072) {k x y : Nat} (hJ : J x y t) (hk : k ≤ 511) (h6 : 6 * (k : Int) + 6 ≤ (bx.2.1 : Int)) (K : ∀ t, J x y t → zL bx (56 + 5 * (k + 1)) (44674 + 47 * (k + 1)) 1295 [(3, vI (6 * (k : Int))), (2, vR (some y)), (1, vR (some x)), (0, vR (some bx.1))] [] t) : zL bx (56 + 5 * k) (44674 + 47 * k) 774 [(3, vI (6 * (k : Int))), (2, vR (some y)), (1, vR (some x)), (0, vR (some bx.1))] [] t := by
  obtain ⟨M, F, g, a, tC, tR, rfl, hR, hC, hX, hG, rfl, hD⟩ := hJ
  have hxC : a 0 0 ∈ tL (glue tC tR) := List.mem_append_left _ (hC.lv 0 0 (by decide) l0).1
  have hkC : tK (glue tC tR) (a 0 0) = 3 := (glue_C (hD _ (hC.lv 0 0 (by decide) l0).1)).1.trans (hC.lv 0 0 (by decide) l0).2.1
  refine x_aload_n 775 dL_law_774 rfl rfl ?_
  refine x_aload_n 776 dL_law_775 rfl rfl ?_
  refine x_iload_n 777 dL_law_776 rfl rfl ?_
  refine x_iconst 778 dL_law_777 rfl ?_
  refine x_iadd 779 dL_law_778 rfl ?_
  refine x_sld 780 ⟨by omega, by omega⟩ hL rfl dL_law_779 rfl ?_
  refine x_callV 783 [_] la_X3_where ml_L_84 im_X3_where se_X3_where hxC hkC (by decide) rfl rfl (c_where hC zi_i32 hG.1 hX).glueL rfl rfl (by decide) (Nat.le_of_ble_eq_true rfl) (by omega) (by omega) dL_law_780 rfl (fun r t hq => ?_)
  obtain ⟨t1, ⟨rfl, hCP⟩, rfl, hD1⟩ := hq
  refine x_aload_n 784 dL_law_783 rfl rfl ?_
  refine x_aload_n 785 dL_law_784 rfl rfl ?_
  refine x_iload_n 786 dL_law_785 rfl rfl ?_
  refine x_iconst 787 dL_law_786 rfl ?_
  refine x_iadd 788 dL_law_787 rfl ?_
  refine x_sld 789 ⟨by omega, by omega⟩ hL rfl dL_law_788 rfl ?_
  refine x_callV 792 [_] la_X4_where ml_L_87 im_X4_where se_X4_where (List.mem_append_right _ hR.1.1) ((glue_R hR.1.1).1.trans hR.1.2.1) (by decide) rfl rfl (r_where hR zi_i32 hG.1).glueR rfl rfl (by decide) (Nat.le_of_ble_eq_true rfl) (by omega) (by omega) dL_law_789 rfl (fun r t hq => ?_)
  obtain ⟨t2, ⟨rfl, hRP⟩, rfl, hD2⟩ := hq
  refine x_icmp_same 1295 dL_law_792 (by decide) ?_
  refine x_widen (cu' := 56 + 5 * (k + 1)) (su' := 44674 + 47 * (k + 1)) (by omega) (by omega) ?_
  exact K _ (J.join hCP hRP hG hD2)
set_option maxRecDepth 20000 in
theorem law_17 (hL : bx.2.1 ≤ 3072) {k x y : Nat} (hJ : J x y t) (hk : k ≤ 511) (h6 : 6 * (k : Int) + 6 ≤ (bx.2.1 : Int)) (K : ∀ t, J x y t → zL bx (56 + 5 * (k + 1)) (44674 + 47 * (k + 1)) 1295 [(3, vI (6 * (k : Int))), (2, vR (some y)), (1, vR (some x)), (0, vR (some bx.1))] [] t) : zL bx (56 + 5 * k) (44674 + 47 * k) 797 [(3, vI (6 * (k : Int))), (2, vR (some y)), (1, vR (some x)), (0, vR (some bx.1))] [] t := by
  obtain ⟨M, F, g, a, tC, tR, rfl, hR, hC, hX, hG, rfl, hD⟩ := hJ
  have hxC : a 0 0 ∈ tL (glue tC tR) := List.mem_append_left _ (hC.lv 0 0 (by decide) l0).1
  have hkC : tK (glue tC tR) (a 0 0) = 3 := (glue_C (hD _ (hC.lv 0 0 (by decide) l0).1)).1.trans (hC.lv 0 0 (by decide) l0).2.1
  refine x_aload_n 798 dL_law_797 rfl rfl ?_
  refine x_aload_n 799 dL_law_798 rfl rfl ?_
  refine x_iload_n 800 dL_law_799 rfl rfl ?_
  refine x_iconst 801 dL_law_800 rfl ?_
  refine x_iadd 802 dL_law_801 rfl ?_
  refine x_sld 803 ⟨by omega, by omega⟩ hL rfl dL_law_802 rfl ?_
  refine x_callV 806 [_] la_X3_grams ml_L_88 im_X3_grams se_X3_grams hxC hkC (by decide) rfl rfl (c_grams hC zi_i32 hG.1 hX).glueL rfl rfl (by decide) (Nat.le_of_ble_eq_true rfl) (by omega) (by omega) dL_law_803 rfl (fun r t hq => ?_)
  obtain ⟨t1, ⟨rfl, hCP⟩, rfl, hD1⟩ := hq
  refine x_aload_n 807 dL_law_806 rfl rfl ?_
  refine x_aload_n 808 dL_law_807 rfl rfl ?_
  refine x_iload_n 809 dL_law_808 rfl rfl ?_
  refine x_iconst 810 dL_law_809 rfl ?_
  refine x_iadd 811 dL_law_810 rfl ?_
  refine x_sld 812 ⟨by omega, by omega⟩ hL rfl dL_law_811 rfl ?_
  refine x_callV 815 [_] la_X4_grams ml_L_92 im_X4_grams se_X4_grams (List.mem_append_right _ hR.1.1) ((glue_R hR.1.1).1.trans hR.1.2.1) (by decide) rfl rfl (r_grams hR zi_i32 hG.1).glueR rfl rfl (by decide) (Nat.le_of_ble_eq_true rfl) (by omega) (by omega) dL_law_812 rfl (fun r t hq => ?_)
  obtain ⟨t2, ⟨rfl, hRP⟩, rfl, hD2⟩ := hq
  refine x_lcmp_same 816 dL_law_815 rfl ?_
  refine x_if_eq 1295 819 dL_law_816 (by decide) rfl ⟨by decide, by decide⟩ (fun _ => ?_) (fun h => absurd rfl h)
  refine x_widen (cu' := 56 + 5 * (k + 1)) (su' := 44674 + 47 * (k + 1)) (by omega) (by omega) ?_
  exact K _ (J.join hCP hRP hG hD2)
set_option maxRecDepth 20000 in
theorem law_18 (hL : bx.2.1 ≤ 3072) {k x y : Nat} (hJ : J x y t) (hk : k ≤ 511) (h6 : 6 * (k : Int) + 6 ≤ (bx.2.1 : Int)) (K : ∀ t, J x y t → zL bx (56 + 5 * (k + 1)) (44674 + 47 * (k + 1)) 1295 [(3, vI (6 * (k : Int))), (2, vR (some y)), (1, vR (some x)), (0, vR (some bx.1))] [] t) : zL bx (56 + 5 * k) (44674 + 47 * k) 821 [(3, vI (6 * (k : Int))), (2, vR (some y)), (1, vR (some x)), (0, vR (some bx.1))] [] t := by
  obtain ⟨M, F, g, a, tC, tR, rfl, hR, hC, hX, hG, rfl, hD⟩ := hJ
  have hxC : a 0 0 ∈ tL (glue tC tR) := List.mem_append_left _ (hC.lv 0 0 (by decide) l0).1
  have hkC : tK (glue tC tR) (a 0 0) = 3 := (glue_C (hD _ (hC.lv 0 0 (by decide) l0).1)).1.trans (hC.lv 0 0 (by decide) l0).2.1
  refine x_aload_n 822 dL_law_821 rfl rfl ?_
  refine x_aload_n 823 dL_law_822 rfl rfl ?_
  refine x_iload_n 824 dL_law_823 rfl rfl ?_
  refine x_iconst 825 dL_law_824 rfl ?_
  refine x_iadd 826 dL_law_825 rfl ?_
  refine x_sld 827 ⟨by omega, by omega⟩ hL rfl dL_law_826 rfl ?_
  refine x_aload_n 828 dL_law_827 rfl rfl ?_
  refine x_iload_n 829 dL_law_828 rfl rfl ?_
  refine x_iconst 830 dL_law_829 rfl ?_
  refine x_iadd 831 dL_law_830 rfl ?_
  refine x_sld 832 ⟨by omega, by omega⟩ hL rfl dL_law_831 rfl ?_
  refine x_callV 835 [_, _] la_X3_rest ml_L_93 im_X3_rest se_X3_rest hxC hkC (by decide) rfl rfl (c_rest hC zi_i32 zi_i32 hG.1 hX).glueL rfl rfl (by decide) (Nat.le_of_ble_eq_true rfl) (by omega) (by omega) dL_law_832 rfl (fun r t hq => ?_)
  obtain ⟨t1, ⟨rfl, hCP⟩, rfl, hD1⟩ := hq
  refine x_dstore (lv' := [(4, _), (3, _), (2, _), (1, _), (0, _)]) 837 dL_law_835 rfl rfl rfl ?_
  refine x_aload_n 838 dL_law_837 rfl rfl ?_
  refine x_aload_n 839 dL_law_838 rfl rfl ?_
  refine x_iload_n 840 dL_law_839 rfl rfl ?_
  refine x_iconst 841 dL_law_840 rfl ?_
  refine x_iadd 842 dL_law_841 rfl ?_
  refine x_sld 843 ⟨by omega, by omega⟩ hL rfl dL_law_842 rfl ?_
  refine x_aload_n 844 dL_law_843 rfl rfl ?_
  refine x_iload_n 845 dL_law_844 rfl rfl ?_
  refine x_iconst 846 dL_law_845 rfl ?_
  refine x_iadd 847 dL_law_846 rfl ?_
  refine x_sld 848 ⟨by omega, by omega⟩ hL rfl dL_law_847 rfl ?_
  refine x_callV 851 [_, _] la_X4_rest ml_L_96 im_X4_rest se_X4_rest (List.mem_append_right _ hR.1.1) ((glue_R hR.1.1).1.trans hR.1.2.1) (by decide) rfl rfl (r_rest hR zi_i32 zi_i32 hG.1).glueR rfl rfl (by decide) (Nat.le_of_ble_eq_true rfl) (by omega) (by omega) dL_law_848 rfl (fun r t hq => ?_)
  obtain ⟨t2, ⟨rfl, hRP⟩, rfl, hD2⟩ := hq
  refine x_dstore (lv' := [(6, _), (4, _), (3, _), (2, _), (1, _), (0, _)]) 853 dL_law_851 rfl rfl rfl ?_
  refine x_dload 855 dL_law_853 rfl rfl ?_
  refine x_dload 857 dL_law_855 rfl rfl ?_
  refine x_dcmp 858 dL_law_857 rfl ?_
  refine x_if_eq 879 861 dL_law_858 (by decide) rfl zfc_i (fun h1 => ?_) (fun h1 => ?_)
  · refine x_goto 1295 dL_law_879 (by decide) ?_
    refine x_sub (lv' := [(3, _), (2, _), (1, _), (0, _)]) ⟨rfl, rfl, rfl, rfl, trivial⟩ ?_
    refine x_widen (cu' := 56 + 5 * (k + 1)) (su' := 44674 + 47 * (k + 1)) (by omega) (by omega) ?_
    exact K _ (J.join hCP hRP hG hD2)
  · refine x_dload 863 dL_law_861 rfl rfl ?_
    refine x_dload 865 dL_law_863 rfl rfl ?_
    refine x_dcmp 866 dL_law_865 rfl ?_
    refine x_if_eq 877 869 dL_law_866 (by decide) rfl zfc_i (fun h2 => absurd h2 h1) (fun h2 => ?_)
    refine x_dload 871 dL_law_869 rfl rfl ?_
    refine x_dload 873 dL_law_871 rfl rfl ?_
    refine x_dcmp 874 dL_law_873 rfl ?_
    refine x_if_ne 879 877 dL_law_874 (by decide) rfl zfc_i (fun h3 => ?_) (fun h3 => absurd h1 h3)
    refine x_goto 1295 dL_law_879 (by decide) ?_
    refine x_sub (lv' := [(3, _), (2, _), (1, _), (0, _)]) ⟨rfl, rfl, rfl, rfl, trivial⟩ ?_
    refine x_widen (cu' := 56 + 5 * (k + 1)) (su' := 44674 + 47 * (k + 1)) (by omega) (by omega) ?_
    exact K _ (J.join hCP hRP hG hD2)
set_option maxRecDepth 20000 in
theorem law_19 (hL : bx.2.1 ≤ 3072) {k x y : Nat} (hJ : J x y t) (hk : k ≤ 511) (h6 : 6 * (k : Int) + 6 ≤ (bx.2.1 : Int)) (K : ∀ t, J x y t → zL bx (56 + 5 * (k + 1)) (44674 + 47 * (k + 1)) 1295 [(3, vI (6 * (k : Int))), (2, vR (some y)), (1, vR (some x)), (0, vR (some bx.1))] [] t) : zL bx (56 + 5 * k) (44674 + 47 * k) 882 [(3, vI (6 * (k : Int))), (2, vR (some y)), (1, vR (some x)), (0, vR (some bx.1))] [] t := by
  obtain ⟨M, F, g, a, tC, tR, rfl, hR, hC, hX, hG, rfl, hD⟩ := hJ
  have hxC : a 0 0 ∈ tL (glue tC tR) := List.mem_append_left _ (hC.lv 0 0 (by decide) l0).1
  have hkC : tK (glue tC tR) (a 0 0) = 3 := (glue_C (hD _ (hC.lv 0 0 (by decide) l0).1)).1.trans (hC.lv 0 0 (by decide) l0).2.1
  refine x_aload_n 883 dL_law_882 rfl rfl ?_
  refine x_aload_n 884 dL_law_883 rfl rfl ?_
  refine x_iload_n 885 dL_law_884 rfl rfl ?_
  refine x_iconst 886 dL_law_885 rfl ?_
  refine x_iadd 887 dL_law_886 rfl ?_
  refine x_sld 888 ⟨by omega, by omega⟩ hL rfl dL_law_887 rfl ?_
  refine x_aload_n 889 dL_law_888 rfl rfl ?_
  refine x_iload_n 890 dL_law_889 rfl rfl ?_
  refine x_iconst 891 dL_law_890 rfl ?_
  refine x_iadd 892 dL_law_891 rfl ?_
  refine x_sld 893 ⟨by omega, by omega⟩ hL rfl dL_law_892 rfl ?_
  refine x_callV 896 [_, _] la_X3_left ml_L_97 im_X3_left se_X3_left hxC hkC (by decide) rfl rfl (c_left hC zi_i32 zi_i32 hG.1 hX).glueL rfl rfl (by decide) (Nat.le_of_ble_eq_true rfl) (by omega) (by omega) dL_law_893 rfl (fun r t hq => ?_)
  obtain ⟨t1, ⟨rfl, hCP⟩, rfl, hD1⟩ := hq
  refine x_dstore (lv' := [(4, _), (3, _), (2, _), (1, _), (0, _)]) 898 dL_law_896 rfl rfl rfl ?_
  refine x_aload_n 899 dL_law_898 rfl rfl ?_
  refine x_aload_n 900 dL_law_899 rfl rfl ?_
  refine x_iload_n 901 dL_law_900 rfl rfl ?_
  refine x_iconst 902 dL_law_901 rfl ?_
  refine x_iadd 903 dL_law_902 rfl ?_
  refine x_sld 904 ⟨by omega, by omega⟩ hL rfl dL_law_903 rfl ?_
  refine x_aload_n 905 dL_law_904 rfl rfl ?_
  refine x_iload_n 906 dL_law_905 rfl rfl ?_
  refine x_iconst 907 dL_law_906 rfl ?_
  refine x_iadd 908 dL_law_907 rfl ?_
  refine x_sld 909 ⟨by omega, by omega⟩ hL rfl dL_law_908 rfl ?_
  refine x_callV 912 [_, _] la_X4_left ml_L_100 im_X4_left se_X4_left (List.mem_append_right _ hR.1.1) ((glue_R hR.1.1).1.trans hR.1.2.1) (by decide) rfl rfl (r_left hR zi_i32 zi_i32 hG.1).glueR rfl rfl (by decide) (Nat.le_of_ble_eq_true rfl) (by omega) (by omega) dL_law_909 rfl (fun r t hq => ?_)
  obtain ⟨t2, ⟨rfl, hRP⟩, rfl, hD2⟩ := hq
  refine x_dstore (lv' := [(6, _), (4, _), (3, _), (2, _), (1, _), (0, _)]) 914 dL_law_912 rfl rfl rfl ?_
  refine x_dload 916 dL_law_914 rfl rfl ?_
  refine x_dload 918 dL_law_916 rfl rfl ?_
  refine x_dcmp 919 dL_law_918 rfl ?_
  refine x_if_eq 940 922 dL_law_919 (by decide) rfl zfc_i (fun h1 => ?_) (fun h1 => ?_)
  · refine x_goto 1295 dL_law_940 (by decide) ?_
    refine x_sub (lv' := [(3, _), (2, _), (1, _), (0, _)]) ⟨rfl, rfl, rfl, rfl, trivial⟩ ?_
    refine x_widen (cu' := 56 + 5 * (k + 1)) (su' := 44674 + 47 * (k + 1)) (by omega) (by omega) ?_
    exact K _ (J.join hCP hRP hG hD2)
  · refine x_dload 924 dL_law_922 rfl rfl ?_
    refine x_dload 926 dL_law_924 rfl rfl ?_
    refine x_dcmp 927 dL_law_926 rfl ?_
    refine x_if_eq 938 930 dL_law_927 (by decide) rfl zfc_i (fun h2 => absurd h2 h1) (fun h2 => ?_)
    refine x_dload 932 dL_law_930 rfl rfl ?_
    refine x_dload 934 dL_law_932 rfl rfl ?_
    refine x_dcmp 935 dL_law_934 rfl ?_
    refine x_if_ne 940 938 dL_law_935 (by decide) rfl zfc_i (fun h3 => ?_) (fun h3 => absurd h1 h3)
    refine x_goto 1295 dL_law_940 (by decide) ?_
    refine x_sub (lv' := [(3, _), (2, _), (1, _), (0, _)]) ⟨rfl, rfl, rfl, rfl, trivial⟩ ?_
    refine x_widen (cu' := 56 + 5 * (k + 1)) (su' := 44674 + 47 * (k + 1)) (by omega) (by omega) ?_
    exact K _ (J.join hCP hRP hG hD2)
set_option maxRecDepth 20000 in
theorem law_20 (hL : bx.2.1 ≤ 3072) {k x y : Nat} (hJ : J x y t) (hk : k ≤ 511) (h6 : 6 * (k : Int) + 6 ≤ (bx.2.1 : Int)) (K : ∀ t, J x y t → zL bx (56 + 5 * (k + 1)) (44674 + 47 * (k + 1)) 1295 [(3, vI (6 * (k : Int))), (2, vR (some y)), (1, vR (some x)), (0, vR (some bx.1))] [] t) : zL bx (56 + 5 * k) (44674 + 47 * k) 943 [(3, vI (6 * (k : Int))), (2, vR (some y)), (1, vR (some x)), (0, vR (some bx.1))] [] t := by
  obtain ⟨M, F, g, a, tC, tR, rfl, hR, hC, hX, hG, rfl, hD⟩ := hJ
  have hxC : a 0 0 ∈ tL (glue tC tR) := List.mem_append_left _ (hC.lv 0 0 (by decide) l0).1
  have hkC : tK (glue tC tR) (a 0 0) = 3 := (glue_C (hD _ (hC.lv 0 0 (by decide) l0).1)).1.trans (hC.lv 0 0 (by decide) l0).2.1
  refine x_aload_n 944 dL_law_943 rfl rfl ?_
  refine x_aload_n 945 dL_law_944 rfl rfl ?_
  refine x_iload_n 946 dL_law_945 rfl rfl ?_
  refine x_iconst 947 dL_law_946 rfl ?_
  refine x_iadd 948 dL_law_947 rfl ?_
  refine x_sld 949 ⟨by omega, by omega⟩ hL rfl dL_law_948 rfl ?_
  refine x_aload_n 950 dL_law_949 rfl rfl ?_
  refine x_iload_n 951 dL_law_950 rfl rfl ?_
  refine x_iconst 952 dL_law_951 rfl ?_
  refine x_iadd 953 dL_law_952 rfl ?_
  refine x_sld 954 ⟨by omega, by omega⟩ hL rfl dL_law_953 rfl ?_
  refine x_aload_n 955 dL_law_954 rfl rfl ?_
  refine x_iload_n 956 dL_law_955 rfl rfl ?_
  refine x_iconst 957 dL_law_956 rfl ?_
  refine x_iadd 958 dL_law_957 rfl ?_
  refine x_sld 959 ⟨by omega, by omega⟩ hL rfl dL_law_958 rfl ?_
  refine x_callV 962 [_, _, _] la_X3_turned ml_L_101 im_X3_turned se_X3_turned hxC hkC (by decide) rfl rfl (c_turned hC zi_i32 zi_i32 zi_i32 hG.1 hX).glueL rfl rfl (by decide) (Nat.le_of_ble_eq_true rfl) (by omega) (by omega) dL_law_959 rfl (fun r t hq => ?_)
  obtain ⟨t1, ⟨rfl, hCP⟩, rfl, hD1⟩ := hq
  refine x_aload_n 963 dL_law_962 rfl rfl ?_
  refine x_aload_n 964 dL_law_963 rfl rfl ?_
  refine x_iload_n 965 dL_law_964 rfl rfl ?_
  refine x_iconst 966 dL_law_965 rfl ?_
  refine x_iadd 967 dL_law_966 rfl ?_
  refine x_sld 968 ⟨by omega, by omega⟩ hL rfl dL_law_967 rfl ?_
  refine x_aload_n 969 dL_law_968 rfl rfl ?_
  refine x_iload_n 970 dL_law_969 rfl rfl ?_
  refine x_iconst 971 dL_law_970 rfl ?_
  refine x_iadd 972 dL_law_971 rfl ?_
  refine x_sld 973 ⟨by omega, by omega⟩ hL rfl dL_law_972 rfl ?_
  refine x_aload_n 974 dL_law_973 rfl rfl ?_
  refine x_iload_n 975 dL_law_974 rfl rfl ?_
  refine x_iconst 976 dL_law_975 rfl ?_
  refine x_iadd 977 dL_law_976 rfl ?_
  refine x_sld 978 ⟨by omega, by omega⟩ hL rfl dL_law_977 rfl ?_
  refine x_callV 981 [_, _, _] la_X4_turned ml_L_105 im_X4_turned se_X4_turned (List.mem_append_right _ hR.1.1) ((glue_R hR.1.1).1.trans hR.1.2.1) (by decide) rfl rfl (r_turned hR zi_i32 zi_i32 zi_i32 hG.1).glueR rfl rfl (by decide) (Nat.le_of_ble_eq_true rfl) (by omega) (by omega) dL_law_978 rfl (fun r t hq => ?_)
  obtain ⟨t2, ⟨rfl, hRP⟩, rfl, hD2⟩ := hq
  refine x_lcmp_same 982 dL_law_981 rfl ?_
  refine x_if_eq 1295 985 dL_law_982 (by decide) rfl ⟨by decide, by decide⟩ (fun _ => ?_) (fun h => absurd rfl h)
  refine x_widen (cu' := 56 + 5 * (k + 1)) (su' := 44674 + 47 * (k + 1)) (by omega) (by omega) ?_
  exact K _ (J.join hCP hRP hG hD2)
set_option maxRecDepth 20000 in
theorem law_21 (hL : bx.2.1 ≤ 3072) {k x y : Nat} (hJ : J x y t) (hk : k ≤ 511) (h6 : 6 * (k : Int) + 6 ≤ (bx.2.1 : Int)) (K : ∀ t, J x y t → zL bx (56 + 5 * (k + 1)) (44674 + 47 * (k + 1)) 1295 [(3, vI (6 * (k : Int))), (2, vR (some y)), (1, vR (some x)), (0, vR (some bx.1))] [] t) : zL bx (56 + 5 * k) (44674 + 47 * k) 987 [(3, vI (6 * (k : Int))), (2, vR (some y)), (1, vR (some x)), (0, vR (some bx.1))] [] t := by
  obtain ⟨M, F, g, a, tC, tR, rfl, hR, hC, hX, hG, rfl, hD⟩ := hJ
  have hxC : a 0 0 ∈ tL (glue tC tR) := List.mem_append_left _ (hC.lv 0 0 (by decide) l0).1
  have hkC : tK (glue tC tR) (a 0 0) = 3 := (glue_C (hD _ (hC.lv 0 0 (by decide) l0).1)).1.trans (hC.lv 0 0 (by decide) l0).2.1
  refine x_aload_n 988 dL_law_987 rfl rfl ?_
  refine x_aload_n 989 dL_law_988 rfl rfl ?_
  refine x_iload_n 990 dL_law_989 rfl rfl ?_
  refine x_iconst 991 dL_law_990 rfl ?_
  refine x_iadd 992 dL_law_991 rfl ?_
  refine x_sld 993 ⟨by omega, by omega⟩ hL rfl dL_law_992 rfl ?_
  refine x_aload_n 994 dL_law_993 rfl rfl ?_
  refine x_iload_n 995 dL_law_994 rfl rfl ?_
  refine x_iconst 996 dL_law_995 rfl ?_
  refine x_iadd 997 dL_law_996 rfl ?_
  refine x_sld 998 ⟨by omega, by omega⟩ hL rfl dL_law_997 rfl ?_
  refine x_callV 1001 [_, _] la_X3_hang ml_L_106 im_X3_hang se_X3_hang hxC hkC (by decide) rfl rfl (c_hang hC zi_i32 zi_i32 hG.1 hX).glueL rfl rfl (by decide) (Nat.le_of_ble_eq_true rfl) (by omega) (by omega) dL_law_998 rfl (fun r t hq => ?_)
  obtain ⟨t1, ⟨rfl, hCP⟩, rfl, hD1⟩ := hq
  refine x_aload_n 1002 dL_law_1001 rfl rfl ?_
  refine x_aload_n 1003 dL_law_1002 rfl rfl ?_
  refine x_iload_n 1004 dL_law_1003 rfl rfl ?_
  refine x_iconst 1005 dL_law_1004 rfl ?_
  refine x_iadd 1006 dL_law_1005 rfl ?_
  refine x_sld 1007 ⟨by omega, by omega⟩ hL rfl dL_law_1006 rfl ?_
  refine x_aload_n 1008 dL_law_1007 rfl rfl ?_
  refine x_iload_n 1009 dL_law_1008 rfl rfl ?_
  refine x_iconst 1010 dL_law_1009 rfl ?_
  refine x_iadd 1011 dL_law_1010 rfl ?_
  refine x_sld 1012 ⟨by omega, by omega⟩ hL rfl dL_law_1011 rfl ?_
  refine x_callV 1015 [_, _] la_X4_hang ml_L_109 im_X4_hang se_X4_hang (List.mem_append_right _ hR.1.1) ((glue_R hR.1.1).1.trans hR.1.2.1) (by decide) rfl rfl (r_hang hR zi_i32 zi_i32 hG.1).glueR rfl rfl (by decide) (Nat.le_of_ble_eq_true rfl) (by omega) (by omega) dL_law_1012 rfl (fun r t hq => ?_)
  obtain ⟨t2, ⟨rfl, hRP⟩, rfl, hD2⟩ := hq
  refine x_icmp_same 1295 dL_law_1015 (by decide) ?_
  refine x_widen (cu' := 56 + 5 * (k + 1)) (su' := 44674 + 47 * (k + 1)) (by omega) (by omega) ?_
  exact K _ (J.join hCP ⟨_, _, hRP, eqs.rf⟩ hG.khang hD2)
set_option maxRecDepth 20000 in
theorem law_22 (hL : bx.2.1 ≤ 3072) {k x y : Nat} (hJ : J x y t) (hk : k ≤ 511) (h6 : 6 * (k : Int) + 6 ≤ (bx.2.1 : Int)) (K : ∀ t, J x y t → zL bx (56 + 5 * (k + 1)) (44674 + 47 * (k + 1)) 1295 [(3, vI (6 * (k : Int))), (2, vR (some y)), (1, vR (some x)), (0, vR (some bx.1))] [] t) : zL bx (56 + 5 * k) (44674 + 47 * k) 1020 [(3, vI (6 * (k : Int))), (2, vR (some y)), (1, vR (some x)), (0, vR (some bx.1))] [] t := by
  obtain ⟨M, F, g, a, tC, tR, rfl, hR, hC, hX, hG, rfl, hD⟩ := hJ
  have hxC : a 0 0 ∈ tL (glue tC tR) := List.mem_append_left _ (hC.lv 0 0 (by decide) l0).1
  have hkC : tK (glue tC tR) (a 0 0) = 3 := (glue_C (hD _ (hC.lv 0 0 (by decide) l0).1)).1.trans (hC.lv 0 0 (by decide) l0).2.1
  refine x_aload_n 1021 dL_law_1020 rfl rfl ?_
  refine x_aload_n 1022 dL_law_1021 rfl rfl ?_
  refine x_iload_n 1023 dL_law_1022 rfl rfl ?_
  refine x_iconst 1024 dL_law_1023 rfl ?_
  refine x_iadd 1025 dL_law_1024 rfl ?_
  refine x_sld 1026 ⟨by omega, by omega⟩ hL rfl dL_law_1025 rfl ?_
  refine x_callV 1029 [_] la_X3_off ml_L_110 im_X3_off se_X3_off hxC hkC (by decide) rfl rfl (c_off hC zi_i32 hG.1 hX).glueL rfl rfl (by decide) (Nat.le_of_ble_eq_true rfl) (by omega) (by omega) dL_law_1026 rfl (fun r t hq => ?_)
  obtain ⟨t1, ⟨rfl, hCP⟩, rfl, hD1⟩ := hq
  refine x_aload_n 1030 dL_law_1029 rfl rfl ?_
  refine x_aload_n 1031 dL_law_1030 rfl rfl ?_
  refine x_iload_n 1032 dL_law_1031 rfl rfl ?_
  refine x_iconst 1033 dL_law_1032 rfl ?_
  refine x_iadd 1034 dL_law_1033 rfl ?_
  refine x_sld 1035 ⟨by omega, by omega⟩ hL rfl dL_law_1034 rfl ?_
  refine x_callV 1038 [_] la_X4_off ml_L_113 im_X4_off se_X4_off (List.mem_append_right _ hR.1.1) ((glue_R hR.1.1).1.trans hR.1.2.1) (by decide) rfl rfl (r_off hR zi_i32 hG.1).glueR rfl rfl (by decide) (Nat.le_of_ble_eq_true rfl) (by omega) (by omega) dL_law_1035 rfl (fun r t hq => ?_)
  obtain ⟨t2, ⟨rfl, hRP⟩, rfl, hD2⟩ := hq
  refine x_icmp_same 1295 dL_law_1038 (by decide) ?_
  refine x_widen (cu' := 56 + 5 * (k + 1)) (su' := 44674 + 47 * (k + 1)) (by omega) (by omega) ?_
  exact K _ (J.join hCP ⟨_, _, hRP, eqs.rf⟩ hG.koff hD2)
set_option maxRecDepth 20000 in
theorem law_23 (hL : bx.2.1 ≤ 3072) {k x y : Nat} (hJ : J x y t) (hk : k ≤ 511) (h6 : 6 * (k : Int) + 6 ≤ (bx.2.1 : Int)) (K : ∀ t, J x y t → zL bx (56 + 5 * (k + 1)) (44674 + 47 * (k + 1)) 1295 [(3, vI (6 * (k : Int))), (2, vR (some y)), (1, vR (some x)), (0, vR (some bx.1))] [] t) : zL bx (56 + 5 * k) (44674 + 47 * k) 1043 [(3, vI (6 * (k : Int))), (2, vR (some y)), (1, vR (some x)), (0, vR (some bx.1))] [] t := by
  obtain ⟨M, F, g, a, tC, tR, rfl, hR, hC, hX, hG, rfl, hD⟩ := hJ
  have hxC : a 0 0 ∈ tL (glue tC tR) := List.mem_append_left _ (hC.lv 0 0 (by decide) l0).1
  have hkC : tK (glue tC tR) (a 0 0) = 3 := (glue_C (hD _ (hC.lv 0 0 (by decide) l0).1)).1.trans (hC.lv 0 0 (by decide) l0).2.1
  refine x_aload_n 1044 dL_law_1043 rfl rfl ?_
  refine x_aload_n 1045 dL_law_1044 rfl rfl ?_
  refine x_iload_n 1046 dL_law_1045 rfl rfl ?_
  refine x_iconst 1047 dL_law_1046 rfl ?_
  refine x_iadd 1048 dL_law_1047 rfl ?_
  refine x_sld 1049 ⟨by omega, by omega⟩ hL rfl dL_law_1048 rfl ?_
  refine x_aload_n 1050 dL_law_1049 rfl rfl ?_
  refine x_iload_n 1051 dL_law_1050 rfl rfl ?_
  refine x_iconst 1052 dL_law_1051 rfl ?_
  refine x_iadd 1053 dL_law_1052 rfl ?_
  refine x_sld 1054 ⟨by omega, by omega⟩ hL rfl dL_law_1053 rfl ?_
  refine x_callV 1057 [_, _] la_X3_take ml_L_114 im_X3_take se_X3_take hxC hkC (by decide) rfl rfl (c_take hC zi_i32 zi_i32 hG.1 hX).glueL rfl rfl (by decide) (Nat.le_of_ble_eq_true rfl) (by omega) (by omega) dL_law_1054 rfl (fun r t hq => ?_)
  obtain ⟨t1, ⟨rfl, hCP⟩, rfl, hD1⟩ := hq
  refine x_aload_n 1058 dL_law_1057 rfl rfl ?_
  refine x_aload_n 1059 dL_law_1058 rfl rfl ?_
  refine x_iload_n 1060 dL_law_1059 rfl rfl ?_
  refine x_iconst 1061 dL_law_1060 rfl ?_
  refine x_iadd 1062 dL_law_1061 rfl ?_
  refine x_sld 1063 ⟨by omega, by omega⟩ hL rfl dL_law_1062 rfl ?_
  refine x_aload_n 1064 dL_law_1063 rfl rfl ?_
  refine x_iload_n 1065 dL_law_1064 rfl rfl ?_
  refine x_iconst 1066 dL_law_1065 rfl ?_
  refine x_iadd 1067 dL_law_1066 rfl ?_
  refine x_sld 1068 ⟨by omega, by omega⟩ hL rfl dL_law_1067 rfl ?_
  refine x_callV 1071 [_, _] la_X4_take ml_L_117 im_X4_take se_X4_take (List.mem_append_right _ hR.1.1) ((glue_R hR.1.1).1.trans hR.1.2.1) (by decide) rfl rfl (r_take hR zi_i32 zi_i32 hG.1).glueR rfl rfl (by decide) (Nat.le_of_ble_eq_true rfl) (by omega) (by omega) dL_law_1068 rfl (fun r t hq => ?_)
  obtain ⟨t2, ⟨rfl, hRP⟩, rfl, hD2⟩ := hq
  refine x_icmp_same 1295 dL_law_1071 (by decide) ?_
  refine x_widen (cu' := 56 + 5 * (k + 1)) (su' := 44674 + 47 * (k + 1)) (by omega) (by omega) ?_
  exact K _ (J.join hCP ⟨_, _, hRP, eqs.rf⟩ hG hD2)
set_option maxRecDepth 20000 in
theorem law_24 (hL : bx.2.1 ≤ 3072) {k x y : Nat} (hJ : J x y t) (hk : k ≤ 511) (h6 : 6 * (k : Int) + 6 ≤ (bx.2.1 : Int)) (K : ∀ t, J x y t → zL bx (56 + 5 * (k + 1)) (44674 + 47 * (k + 1)) 1295 [(3, vI (6 * (k : Int))), (2, vR (some y)), (1, vR (some x)), (0, vR (some bx.1))] [] t) : zL bx (56 + 5 * k) (44674 + 47 * k) 1076 [(3, vI (6 * (k : Int))), (2, vR (some y)), (1, vR (some x)), (0, vR (some bx.1))] [] t := by
  obtain ⟨M, F, g, a, tC, tR, rfl, hR, hC, hX, hG, rfl, hD⟩ := hJ
  have hxC : a 0 0 ∈ tL (glue tC tR) := List.mem_append_left _ (hC.lv 0 0 (by decide) l0).1
  have hkC : tK (glue tC tR) (a 0 0) = 3 := (glue_C (hD _ (hC.lv 0 0 (by decide) l0).1)).1.trans (hC.lv 0 0 (by decide) l0).2.1
  refine x_aload_n 1077 dL_law_1076 rfl rfl ?_
  refine x_aload_n 1078 dL_law_1077 rfl rfl ?_
  refine x_iload_n 1079 dL_law_1078 rfl rfl ?_
  refine x_iconst 1080 dL_law_1079 rfl ?_
  refine x_iadd 1081 dL_law_1080 rfl ?_
  refine x_sld 1082 ⟨by omega, by omega⟩ hL rfl dL_law_1081 rfl ?_
  refine x_aload_n 1083 dL_law_1082 rfl rfl ?_
  refine x_iload_n 1084 dL_law_1083 rfl rfl ?_
  refine x_iconst 1085 dL_law_1084 rfl ?_
  refine x_iadd 1086 dL_law_1085 rfl ?_
  refine x_sld 1087 ⟨by omega, by omega⟩ hL rfl dL_law_1086 rfl ?_
  refine x_callV 1090 [_, _] la_X3_order ml_L_118 im_X3_order se_X3_order hxC hkC (by decide) rfl rfl (c_order hC zi_i32 zi_i32 hG.1 hX).glueL rfl rfl (by decide) (Nat.le_of_ble_eq_true rfl) (by omega) (by omega) dL_law_1087 rfl (fun r t hq => ?_)
  obtain ⟨t1, ⟨rfl, hCP⟩, rfl, hD1⟩ := hq
  refine x_aload_n 1091 dL_law_1090 rfl rfl ?_
  refine x_aload_n 1092 dL_law_1091 rfl rfl ?_
  refine x_iload_n 1093 dL_law_1092 rfl rfl ?_
  refine x_iconst 1094 dL_law_1093 rfl ?_
  refine x_iadd 1095 dL_law_1094 rfl ?_
  refine x_sld 1096 ⟨by omega, by omega⟩ hL rfl dL_law_1095 rfl ?_
  refine x_aload_n 1097 dL_law_1096 rfl rfl ?_
  refine x_iload_n 1098 dL_law_1097 rfl rfl ?_
  refine x_iconst 1099 dL_law_1098 rfl ?_
  refine x_iadd 1100 dL_law_1099 rfl ?_
  refine x_sld 1101 ⟨by omega, by omega⟩ hL rfl dL_law_1100 rfl ?_
  refine x_callV 1104 [_, _] la_X4_order ml_L_121 im_X4_order se_X4_order (List.mem_append_right _ hR.1.1) ((glue_R hR.1.1).1.trans hR.1.2.1) (by decide) rfl rfl (r_order hR zi_i32 zi_i32 hG.1).glueR rfl rfl (by decide) (Nat.le_of_ble_eq_true rfl) (by omega) (by omega) dL_law_1101 rfl (fun r t hq => ?_)
  obtain ⟨t2, ⟨rfl, hRP⟩, rfl, hD2⟩ := hq
  refine x_icmp_same 1295 dL_law_1104 (by decide) ?_
  refine x_widen (cu' := 56 + 5 * (k + 1)) (su' := 44674 + 47 * (k + 1)) (by omega) (by omega) ?_
  exact K _ (J.join hCP ⟨_, _, hRP, eqs.rf⟩ hG.korder hD2)
set_option maxRecDepth 20000 in
theorem law_25 (hL : bx.2.1 ≤ 3072) {k x y : Nat} (hJ : J x y t) (hk : k ≤ 511) (h6 : 6 * (k : Int) + 6 ≤ (bx.2.1 : Int)) (K : ∀ t, J x y t → zL bx (56 + 5 * (k + 1)) (44674 + 47 * (k + 1)) 1295 [(3, vI (6 * (k : Int))), (2, vR (some y)), (1, vR (some x)), (0, vR (some bx.1))] [] t) : zL bx (56 + 5 * k) (44674 + 47 * k) 1109 [(3, vI (6 * (k : Int))), (2, vR (some y)), (1, vR (some x)), (0, vR (some bx.1))] [] t := by
  obtain ⟨M, F, g, a, tC, tR, rfl, hR, hC, hX, hG, rfl, hD⟩ := hJ
  have hxC : a 0 0 ∈ tL (glue tC tR) := List.mem_append_left _ (hC.lv 0 0 (by decide) l0).1
  have hkC : tK (glue tC tR) (a 0 0) = 3 := (glue_C (hD _ (hC.lv 0 0 (by decide) l0).1)).1.trans (hC.lv 0 0 (by decide) l0).2.1
  refine x_aload_n 1110 dL_law_1109 rfl rfl ?_
  refine x_aload_n 1111 dL_law_1110 rfl rfl ?_
  refine x_iload_n 1112 dL_law_1111 rfl rfl ?_
  refine x_iconst 1113 dL_law_1112 rfl ?_
  refine x_iadd 1114 dL_law_1113 rfl ?_
  refine x_sld 1115 ⟨by omega, by omega⟩ hL rfl dL_law_1114 rfl ?_
  refine x_callV 1118 [_] la_X3_cut ml_L_122 im_X3_cut se_X3_cut hxC hkC (by decide) rfl rfl (c_cut hC zi_i32 hG.1 hX).glueL rfl rfl (by decide) (Nat.le_of_ble_eq_true rfl) (by omega) (by omega) dL_law_1115 rfl (fun r t hq => ?_)
  obtain ⟨t1, ⟨rfl, hCP⟩, rfl, hD1⟩ := hq
  refine x_aload_n 1119 dL_law_1118 rfl rfl ?_
  refine x_aload_n 1120 dL_law_1119 rfl rfl ?_
  refine x_iload_n 1121 dL_law_1120 rfl rfl ?_
  refine x_iconst 1122 dL_law_1121 rfl ?_
  refine x_iadd 1123 dL_law_1122 rfl ?_
  refine x_sld 1124 ⟨by omega, by omega⟩ hL rfl dL_law_1123 rfl ?_
  refine x_callV 1127 [_] la_X4_cut ml_L_125 im_X4_cut se_X4_cut (List.mem_append_right _ hR.1.1) ((glue_R hR.1.1).1.trans hR.1.2.1) (by decide) rfl rfl (r_cut hR zi_i32 hG.1).glueR rfl rfl (by decide) (Nat.le_of_ble_eq_true rfl) (by omega) (by omega) dL_law_1124 rfl (fun r t hq => ?_)
  obtain ⟨t2, ⟨rfl, hRP⟩, rfl, hD2⟩ := hq
  refine x_icmp_same 1295 dL_law_1127 (by decide) ?_
  refine x_widen (cu' := 56 + 5 * (k + 1)) (su' := 44674 + 47 * (k + 1)) (by omega) (by omega) ?_
  exact K _ (J.join hCP hRP hG.kcut hD2)
set_option maxRecDepth 20000 in
theorem law_26 (hL : bx.2.1 ≤ 3072) {k x y : Nat} (hJ : J x y t) (hk : k ≤ 511) (h6 : 6 * (k : Int) + 6 ≤ (bx.2.1 : Int)) (K : ∀ t, J x y t → zL bx (56 + 5 * (k + 1)) (44674 + 47 * (k + 1)) 1295 [(3, vI (6 * (k : Int))), (2, vR (some y)), (1, vR (some x)), (0, vR (some bx.1))] [] t) : zL bx (56 + 5 * k) (44674 + 47 * k) 1132 [(3, vI (6 * (k : Int))), (2, vR (some y)), (1, vR (some x)), (0, vR (some bx.1))] [] t := by
  obtain ⟨M, F, g, a, tC, tR, rfl, hR, hC, hX, hG, rfl, hD⟩ := hJ
  have hxC : a 0 0 ∈ tL (glue tC tR) := List.mem_append_left _ (hC.lv 0 0 (by decide) l0).1
  have hkC : tK (glue tC tR) (a 0 0) = 3 := (glue_C (hD _ (hC.lv 0 0 (by decide) l0).1)).1.trans (hC.lv 0 0 (by decide) l0).2.1
  refine x_aload_n 1133 dL_law_1132 rfl rfl ?_
  refine x_aload_n 1134 dL_law_1133 rfl rfl ?_
  refine x_iload_n 1135 dL_law_1134 rfl rfl ?_
  refine x_iconst 1136 dL_law_1135 rfl ?_
  refine x_iadd 1137 dL_law_1136 rfl ?_
  refine x_sld 1138 ⟨by omega, by omega⟩ hL rfl dL_law_1137 rfl ?_
  refine x_callV 1141 [_] la_X3_join ml_L_126 im_X3_join se_X3_join hxC hkC (by decide) rfl rfl (c_join hC zi_i32 hG.1 hX).glueL rfl rfl (by decide) (Nat.le_of_ble_eq_true rfl) (by omega) (by omega) dL_law_1138 rfl (fun r t hq => ?_)
  obtain ⟨t1, ⟨rfl, hCP⟩, rfl, hD1⟩ := hq
  refine x_aload_n 1142 dL_law_1141 rfl rfl ?_
  refine x_aload_n 1143 dL_law_1142 rfl rfl ?_
  refine x_iload_n 1144 dL_law_1143 rfl rfl ?_
  refine x_iconst 1145 dL_law_1144 rfl ?_
  refine x_iadd 1146 dL_law_1145 rfl ?_
  refine x_sld 1147 ⟨by omega, by omega⟩ hL rfl dL_law_1146 rfl ?_
  refine x_callV 1150 [_] la_X4_join ml_L_129 im_X4_join se_X4_join (List.mem_append_right _ hR.1.1) ((glue_R hR.1.1).1.trans hR.1.2.1) (by decide) rfl rfl (r_join hR zi_i32 hG.1).glueR rfl rfl (by decide) (Nat.le_of_ble_eq_true rfl) (by omega) (by omega) dL_law_1147 rfl (fun r t hq => ?_)
  obtain ⟨t2, ⟨rfl, hRP⟩, rfl, hD2⟩ := hq
  refine x_icmp_same 1295 dL_law_1150 (by decide) ?_
  refine x_widen (cu' := 56 + 5 * (k + 1)) (su' := 44674 + 47 * (k + 1)) (by omega) (by omega) ?_
  exact K _ (J.join hCP ⟨_, _, hRP, eqs.rf⟩ hG.kjoin hD2)
set_option maxRecDepth 20000 in
theorem law_27 (hL : bx.2.1 ≤ 3072) {k x y : Nat} (hJ : J x y t) (hk : k ≤ 511) (h6 : 6 * (k : Int) + 6 ≤ (bx.2.1 : Int)) (K : ∀ t, J x y t → zL bx (56 + 5 * (k + 1)) (44674 + 47 * (k + 1)) 1295 [(3, vI (6 * (k : Int))), (2, vR (some y)), (1, vR (some x)), (0, vR (some bx.1))] [] t) : zL bx (56 + 5 * k) (44674 + 47 * k) 1155 [(3, vI (6 * (k : Int))), (2, vR (some y)), (1, vR (some x)), (0, vR (some bx.1))] [] t := by
  obtain ⟨M, F, g, a, tC, tR, rfl, hR, hC, hX, hG, rfl, hD⟩ := hJ
  have hxC : a 0 0 ∈ tL (glue tC tR) := List.mem_append_left _ (hC.lv 0 0 (by decide) l0).1
  have hkC : tK (glue tC tR) (a 0 0) = 3 := (glue_C (hD _ (hC.lv 0 0 (by decide) l0).1)).1.trans (hC.lv 0 0 (by decide) l0).2.1
  refine x_aload_n 1156 dL_law_1155 rfl rfl ?_
  refine x_callV 1159 [] la_X3_begun ml_L_130 im_X3_begun se_X3_begun hxC hkC (by decide) rfl rfl (c_begun hC hG.1 hX).glueL rfl rfl (by decide) (Nat.le_of_ble_eq_true rfl) (by omega) (by omega) dL_law_1156 rfl (fun r t hq => ?_)
  obtain ⟨t1, ⟨rfl, hCP⟩, rfl, hD1⟩ := hq
  refine x_aload_n 1160 dL_law_1159 rfl rfl ?_
  refine x_callV 1163 [] la_X4_begun ml_L_133 im_X4_begun se_X4_begun (List.mem_append_right _ hR.1.1) ((glue_R hR.1.1).1.trans hR.1.2.1) (by decide) rfl rfl (r_begun hR hG.1).glueR rfl rfl (by decide) (Nat.le_of_ble_eq_true rfl) (by omega) (by omega) dL_law_1160 rfl (fun r t hq => ?_)
  obtain ⟨t2, ⟨rfl, hRP⟩, rfl, hD2⟩ := hq
  refine x_icmp_same 1295 dL_law_1163 (by decide) ?_
  refine x_widen (cu' := 56 + 5 * (k + 1)) (su' := 44674 + 47 * (k + 1)) (by omega) (by omega) ?_
  exact K _ (J.join hCP ⟨_, _, hRP, eqs.rf⟩ hG hD2)
set_option maxRecDepth 20000 in
theorem law_28 (hL : bx.2.1 ≤ 3072) {k x y : Nat} (hJ : J x y t) (hk : k ≤ 511) (h6 : 6 * (k : Int) + 6 ≤ (bx.2.1 : Int)) (K : ∀ t, J x y t → zL bx (56 + 5 * (k + 1)) (44674 + 47 * (k + 1)) 1295 [(3, vI (6 * (k : Int))), (2, vR (some y)), (1, vR (some x)), (0, vR (some bx.1))] [] t) : zL bx (56 + 5 * k) (44674 + 47 * k) 1168 [(3, vI (6 * (k : Int))), (2, vR (some y)), (1, vR (some x)), (0, vR (some bx.1))] [] t := by
  obtain ⟨M, F, g, a, tC, tR, rfl, hR, hC, hX, hG, rfl, hD⟩ := hJ
  have hxC : a 0 0 ∈ tL (glue tC tR) := List.mem_append_left _ (hC.lv 0 0 (by decide) l0).1
  have hkC : tK (glue tC tR) (a 0 0) = 3 := (glue_C (hD _ (hC.lv 0 0 (by decide) l0).1)).1.trans (hC.lv 0 0 (by decide) l0).2.1
  refine x_aload_n 1169 dL_law_1168 rfl rfl ?_
  refine x_callV 1172 [] la_X3_fewest ml_L_134 im_X3_fewest se_X3_fewest hxC hkC (by decide) rfl rfl (c_fewest hC hG.1 hX).glueL rfl rfl (by decide) (Nat.le_of_ble_eq_true rfl) (by omega) (by omega) dL_law_1169 rfl (fun r t hq => ?_)
  obtain ⟨t1, ⟨rfl, hCP⟩, rfl, hD1⟩ := hq
  refine x_aload_n 1173 dL_law_1172 rfl rfl ?_
  refine x_callV 1176 [] la_X4_fewest ml_L_137 im_X4_fewest se_X4_fewest (List.mem_append_right _ hR.1.1) ((glue_R hR.1.1).1.trans hR.1.2.1) (by decide) rfl rfl (r_fewest hR hG.1).glueR rfl rfl (by decide) (Nat.le_of_ble_eq_true rfl) (by omega) (by omega) dL_law_1173 rfl (fun r t hq => ?_)
  obtain ⟨t2, ⟨rfl, hRP⟩, rfl, hD2⟩ := hq
  refine x_icmp_same 1295 dL_law_1176 (by decide) ?_
  refine x_widen (cu' := 56 + 5 * (k + 1)) (su' := 44674 + 47 * (k + 1)) (by omega) (by omega) ?_
  exact K _ (J.join hCP hRP hG hD2)
set_option maxRecDepth 20000 in
theorem law_29 (hL : bx.2.1 ≤ 3072) {k x y : Nat} (hJ : J x y t) (hk : k ≤ 511) (h6 : 6 * (k : Int) + 6 ≤ (bx.2.1 : Int)) (K : ∀ t, J x y t → zL bx (56 + 5 * (k + 1)) (44674 + 47 * (k + 1)) 1295 [(3, vI (6 * (k : Int))), (2, vR (some y)), (1, vR (some x)), (0, vR (some bx.1))] [] t) : zL bx (56 + 5 * k) (44674 + 47 * k) 1181 [(3, vI (6 * (k : Int))), (2, vR (some y)), (1, vR (some x)), (0, vR (some bx.1))] [] t := by
  obtain ⟨M, F, g, a, tC, tR, rfl, hR, hC, hX, hG, rfl, hD⟩ := hJ
  have hxC : a 0 0 ∈ tL (glue tC tR) := List.mem_append_left _ (hC.lv 0 0 (by decide) l0).1
  have hkC : tK (glue tC tR) (a 0 0) = 3 := (glue_C (hD _ (hC.lv 0 0 (by decide) l0).1)).1.trans (hC.lv 0 0 (by decide) l0).2.1
  refine x_aload_n 1182 dL_law_1181 rfl rfl ?_
  refine x_aload_n 1183 dL_law_1182 rfl rfl ?_
  refine x_iload_n 1184 dL_law_1183 rfl rfl ?_
  refine x_iconst 1185 dL_law_1184 rfl ?_
  refine x_iadd 1186 dL_law_1185 rfl ?_
  refine x_sld 1187 ⟨by omega, by omega⟩ hL rfl dL_law_1186 rfl ?_
  refine x_callV 1190 [_] la_X3_stage ml_L_138 im_X3_stage se_X3_stage hxC hkC (by decide) rfl rfl (c_stage hC zi_i32 hG.1 hX).glueL rfl rfl (by decide) (Nat.le_of_ble_eq_true rfl) (by omega) (by omega) dL_law_1187 rfl (fun r t hq => ?_)
  obtain ⟨t1, ⟨rfl, hCP⟩, rfl, hD1⟩ := hq
  refine x_aload_n 1191 dL_law_1190 rfl rfl ?_
  refine x_aload_n 1192 dL_law_1191 rfl rfl ?_
  refine x_iload_n 1193 dL_law_1192 rfl rfl ?_
  refine x_iconst 1194 dL_law_1193 rfl ?_
  refine x_iadd 1195 dL_law_1194 rfl ?_
  refine x_sld 1196 ⟨by omega, by omega⟩ hL rfl dL_law_1195 rfl ?_
  refine x_callV 1199 [_] la_X4_stage ml_L_141 im_X4_stage se_X4_stage (List.mem_append_right _ hR.1.1) ((glue_R hR.1.1).1.trans hR.1.2.1) (by decide) rfl rfl (r_stage hR zi_i32 hG.1).glueR rfl rfl (by decide) (Nat.le_of_ble_eq_true rfl) (by omega) (by omega) dL_law_1196 rfl (fun r t hq => ?_)
  obtain ⟨t2, ⟨rfl, hRP⟩, rfl, hD2⟩ := hq
  refine x_icmp_same 1295 dL_law_1199 (by decide) ?_
  refine x_widen (cu' := 56 + 5 * (k + 1)) (su' := 44674 + 47 * (k + 1)) (by omega) (by omega) ?_
  exact K _ (J.join hCP ⟨_, _, hRP, eqs.rf⟩ hG.kstage hD2)
set_option maxRecDepth 20000 in
theorem law_30 (hL : bx.2.1 ≤ 3072) {k x y : Nat} (hJ : J x y t) (hk : k ≤ 511) (h6 : 6 * (k : Int) + 6 ≤ (bx.2.1 : Int)) (K : ∀ t, J x y t → zL bx (56 + 5 * (k + 1)) (44674 + 47 * (k + 1)) 1295 [(3, vI (6 * (k : Int))), (2, vR (some y)), (1, vR (some x)), (0, vR (some bx.1))] [] t) : zL bx (56 + 5 * k) (44674 + 47 * k) 1204 [(3, vI (6 * (k : Int))), (2, vR (some y)), (1, vR (some x)), (0, vR (some bx.1))] [] t := by
  obtain ⟨M, F, g, a, tC, tR, rfl, hR, hC, hX, hG, rfl, hD⟩ := hJ
  have hxC : a 0 0 ∈ tL (glue tC tR) := List.mem_append_left _ (hC.lv 0 0 (by decide) l0).1
  have hkC : tK (glue tC tR) (a 0 0) = 3 := (glue_C (hD _ (hC.lv 0 0 (by decide) l0).1)).1.trans (hC.lv 0 0 (by decide) l0).2.1
  refine x_aload_n 1205 dL_law_1204 rfl rfl ?_
  refine x_callV 1208 [] la_X3_unstage ml_L_142 im_X3_unstage se_X3_unstage hxC hkC (by decide) rfl rfl (c_unstage hC hG.1 hX).glueL rfl rfl (by decide) (Nat.le_of_ble_eq_true rfl) (by omega) (by omega) dL_law_1205 rfl (fun r t hq => ?_)
  obtain ⟨t1, ⟨rfl, hCP⟩, rfl, hD1⟩ := hq
  refine x_aload_n 1209 dL_law_1208 rfl rfl ?_
  refine x_callV 1212 [] la_X4_unstage ml_L_145 im_X4_unstage se_X4_unstage (List.mem_append_right _ hR.1.1) ((glue_R hR.1.1).1.trans hR.1.2.1) (by decide) rfl rfl (r_unstage hR hG.1).glueR rfl rfl (by decide) (Nat.le_of_ble_eq_true rfl) (by omega) (by omega) dL_law_1209 rfl (fun r t hq => ?_)
  obtain ⟨t2, ⟨rfl, hRP⟩, rfl, hD2⟩ := hq
  refine x_icmp_same 1295 dL_law_1212 (by decide) ?_
  refine x_widen (cu' := 56 + 5 * (k + 1)) (su' := 44674 + 47 * (k + 1)) (by omega) (by omega) ?_
  exact K _ (J.join hCP ⟨_, _, hRP, eqs.rf⟩ hG.kunstage hD2)
set_option maxRecDepth 20000 in
theorem law_31 (hL : bx.2.1 ≤ 3072) {k x y : Nat} (hJ : J x y t) (hk : k ≤ 511) (h6 : 6 * (k : Int) + 6 ≤ (bx.2.1 : Int)) (K : ∀ t, J x y t → zL bx (56 + 5 * (k + 1)) (44674 + 47 * (k + 1)) 1295 [(3, vI (6 * (k : Int))), (2, vR (some y)), (1, vR (some x)), (0, vR (some bx.1))] [] t) : zL bx (56 + 5 * k) (44674 + 47 * k) 1217 [(3, vI (6 * (k : Int))), (2, vR (some y)), (1, vR (some x)), (0, vR (some bx.1))] [] t := by
  obtain ⟨M, F, g, a, tC, tR, rfl, hR, hC, hX, hG, rfl, hD⟩ := hJ
  have hxC : a 0 0 ∈ tL (glue tC tR) := List.mem_append_left _ (hC.lv 0 0 (by decide) l0).1
  have hkC : tK (glue tC tR) (a 0 0) = 3 := (glue_C (hD _ (hC.lv 0 0 (by decide) l0).1)).1.trans (hC.lv 0 0 (by decide) l0).2.1
  refine x_aload_n 1218 dL_law_1217 rfl rfl ?_
  refine x_aload_n 1219 dL_law_1218 rfl rfl ?_
  refine x_iload_n 1220 dL_law_1219 rfl rfl ?_
  refine x_iconst 1221 dL_law_1220 rfl ?_
  refine x_iadd 1222 dL_law_1221 rfl ?_
  refine x_sld 1223 ⟨by omega, by omega⟩ hL rfl dL_law_1222 rfl ?_
  refine x_aload_n 1224 dL_law_1223 rfl rfl ?_
  refine x_iload_n 1225 dL_law_1224 rfl rfl ?_
  refine x_iconst 1226 dL_law_1225 rfl ?_
  refine x_iadd 1227 dL_law_1226 rfl ?_
  refine x_sld 1228 ⟨by omega, by omega⟩ hL rfl dL_law_1227 rfl ?_
  refine x_callV 1231 [_, _] la_X3_pull ml_L_146 im_X3_pull se_X3_pull hxC hkC (by decide) rfl rfl (c_pull hC zi_i32 zi_i32 hG.1 hX).glueL rfl rfl (by decide) (Nat.le_of_ble_eq_true rfl) (by omega) (by omega) dL_law_1228 rfl (fun r t hq => ?_)
  obtain ⟨t1, ⟨rfl, hCP⟩, rfl, hD1⟩ := hq
  refine x_aload_n 1232 dL_law_1231 rfl rfl ?_
  refine x_aload_n 1233 dL_law_1232 rfl rfl ?_
  refine x_iload_n 1234 dL_law_1233 rfl rfl ?_
  refine x_iconst 1235 dL_law_1234 rfl ?_
  refine x_iadd 1236 dL_law_1235 rfl ?_
  refine x_sld 1237 ⟨by omega, by omega⟩ hL rfl dL_law_1236 rfl ?_
  refine x_aload_n 1238 dL_law_1237 rfl rfl ?_
  refine x_iload_n 1239 dL_law_1238 rfl rfl ?_
  refine x_iconst 1240 dL_law_1239 rfl ?_
  refine x_iadd 1241 dL_law_1240 rfl ?_
  refine x_sld 1242 ⟨by omega, by omega⟩ hL rfl dL_law_1241 rfl ?_
  refine x_callV 1245 [_, _] la_X4_pull ml_L_150 im_X4_pull se_X4_pull (List.mem_append_right _ hR.1.1) ((glue_R hR.1.1).1.trans hR.1.2.1) (by decide) rfl rfl (r_pull hR zi_i32 zi_i32 hG.1).glueR rfl rfl (by decide) (Nat.le_of_ble_eq_true rfl) (by omega) (by omega) dL_law_1242 rfl (fun r t hq => ?_)
  obtain ⟨t2, ⟨rfl, hRP⟩, rfl, hD2⟩ := hq
  refine x_lcmp_same 1246 dL_law_1245 rfl ?_
  refine x_if_eq 1295 1249 dL_law_1246 (by decide) rfl ⟨by decide, by decide⟩ (fun _ => ?_) (fun h => absurd rfl h)
  refine x_widen (cu' := 56 + 5 * (k + 1)) (su' := 44674 + 47 * (k + 1)) (by omega) (by omega) ?_
  exact K _ (J.join hCP ⟨_, _, hRP, eqs.rf⟩ hG hD2)
set_option maxRecDepth 20000 in
theorem law_32 (hL : bx.2.1 ≤ 3072) {k x y : Nat} (hJ : J x y t) (hk : k ≤ 511) (h6 : 6 * (k : Int) + 6 ≤ (bx.2.1 : Int)) (K : ∀ t, J x y t → zL bx (56 + 5 * (k + 1)) (44674 + 47 * (k + 1)) 1295 [(3, vI (6 * (k : Int))), (2, vR (some y)), (1, vR (some x)), (0, vR (some bx.1))] [] t) : zL bx (56 + 5 * k) (44674 + 47 * k) 1251 [(3, vI (6 * (k : Int))), (2, vR (some y)), (1, vR (some x)), (0, vR (some bx.1))] [] t := by
  obtain ⟨M, F, g, a, tC, tR, rfl, hR, hC, hX, hG, rfl, hD⟩ := hJ
  have hxC : a 0 0 ∈ tL (glue tC tR) := List.mem_append_left _ (hC.lv 0 0 (by decide) l0).1
  have hkC : tK (glue tC tR) (a 0 0) = 3 := (glue_C (hD _ (hC.lv 0 0 (by decide) l0).1)).1.trans (hC.lv 0 0 (by decide) l0).2.1
  refine x_aload_n 1252 dL_law_1251 rfl rfl ?_
  refine x_aload_n 1253 dL_law_1252 rfl rfl ?_
  refine x_iload_n 1254 dL_law_1253 rfl rfl ?_
  refine x_iconst 1255 dL_law_1254 rfl ?_
  refine x_iadd 1256 dL_law_1255 rfl ?_
  refine x_sld 1257 ⟨by omega, by omega⟩ hL rfl dL_law_1256 rfl ?_
  refine x_aload_n 1258 dL_law_1257 rfl rfl ?_
  refine x_iload_n 1259 dL_law_1258 rfl rfl ?_
  refine x_iconst 1260 dL_law_1259 rfl ?_
  refine x_iadd 1261 dL_law_1260 rfl ?_
  refine x_sld 1262 ⟨by omega, by omega⟩ hL rfl dL_law_1261 rfl ?_
  refine x_aload_n 1263 dL_law_1262 rfl rfl ?_
  refine x_iload_n 1264 dL_law_1263 rfl rfl ?_
  refine x_iconst 1265 dL_law_1264 rfl ?_
  refine x_iadd 1266 dL_law_1265 rfl ?_
  refine x_sld 1267 ⟨by omega, by omega⟩ hL rfl dL_law_1266 rfl ?_
  refine x_callV 1270 [_, _, _] la_X3_stress ml_L_151 im_X3_stress se_X3_stress hxC hkC (by decide) rfl rfl (c_stress hC zi_i32 zi_i32 zi_i32 hG.1 hX).glueL rfl rfl (by decide) (Nat.le_of_ble_eq_true rfl) (by omega) (by omega) dL_law_1267 rfl (fun r t hq => ?_)
  obtain ⟨t1, ⟨rfl, hCP⟩, rfl, hD1⟩ := hq
  refine x_aload_n 1271 dL_law_1270 rfl rfl ?_
  refine x_aload_n 1272 dL_law_1271 rfl rfl ?_
  refine x_iload_n 1273 dL_law_1272 rfl rfl ?_
  refine x_iconst 1274 dL_law_1273 rfl ?_
  refine x_iadd 1275 dL_law_1274 rfl ?_
  refine x_sld 1276 ⟨by omega, by omega⟩ hL rfl dL_law_1275 rfl ?_
  refine x_aload_n 1277 dL_law_1276 rfl rfl ?_
  refine x_iload_n 1278 dL_law_1277 rfl rfl ?_
  refine x_iconst 1279 dL_law_1278 rfl ?_
  refine x_iadd 1280 dL_law_1279 rfl ?_
  refine x_sld 1281 ⟨by omega, by omega⟩ hL rfl dL_law_1280 rfl ?_
  refine x_aload_n 1282 dL_law_1281 rfl rfl ?_
  refine x_iload_n 1283 dL_law_1282 rfl rfl ?_
  refine x_iconst 1284 dL_law_1283 rfl ?_
  refine x_iadd 1285 dL_law_1284 rfl ?_
  refine x_sld 1286 ⟨by omega, by omega⟩ hL rfl dL_law_1285 rfl ?_
  refine x_callV 1289 [_, _, _] la_X4_stress ml_L_154 im_X4_stress se_X4_stress (List.mem_append_right _ hR.1.1) ((glue_R hR.1.1).1.trans hR.1.2.1) (by decide) rfl rfl (r_stress hR zi_i32 zi_i32 zi_i32 hG.1).glueR rfl rfl (by decide) (Nat.le_of_ble_eq_true rfl) (by omega) (by omega) dL_law_1286 rfl (fun r t hq => ?_)
  obtain ⟨t2, ⟨rfl, hRP⟩, rfl, hD2⟩ := hq
  refine x_lcmp_same 1290 dL_law_1289 rfl ?_
  refine x_if_eq 1295 1293 dL_law_1290 (by decide) rfl ⟨by decide, by decide⟩ (fun _ => ?_) (fun h => absurd rfl h)
  refine x_widen (cu' := 56 + 5 * (k + 1)) (su' := 44674 + 47 * (k + 1)) (by omega) (by omega) ?_
  exact K _ (J.join hCP ⟨_, _, hRP, eqs.rf⟩ hG hD2)
set_option maxRecDepth 20000 in
theorem law_loop (hL : bx.2.1 ≤ 3072) {x y : Nat} : ∀ (fuel k : Nat) (t : zT), J x y t → k ≤ 512 → 512 - (k : Int) < (fuel : Int) → zL bx (56 + 5 * k) (44674 + 47 * k) 18 [(3, vI (6 * (k : Int))), (2, vR (some y)), (1, vR (some x)), (0, vR (some bx.1))] [] t := by
  intro fuel
  induction fuel with
  | zero => intro k t hJ hk hf; exfalso; omega
  | succ fuel ih =>
    intro k t hJ hk hf
    have hL0 : 0 ≤ (bx.2.1 : Int) ∧ (bx.2.1 : Int) ≤ 3072 := by omega
    refine x_iload_n 19 dL_law_18 rfl rfl ?_
    refine x_aload_n 20 dL_law_19 rfl rfl ?_
    refine x_slen 21 rfl dL_law_20 rfl ?_
    refine x_bipush 23 dL_law_21 rfl ⟨by decide, by decide⟩ ?_
    refine x_isub 24 dL_law_23 rfl ?_
    refine x_icmp_gt 1301 27 dL_law_24 (by decide) rfl ⟨by omega, by omega⟩ ⟨by omega, by omega⟩ (fun h24 => ?_) (fun h24 => ?_)
    · refine x_iconst 1302 dL_law_1301 rfl ?_
      exact x_ret dL_law_1302 (by omega) (by omega)
    · have h6 : 6 * (k : Int) + 6 ≤ (bx.2.1 : Int) := by omega
      have hk1 : k ≤ 511 := by omega
      refine x_aload_n 28 dL_law_27 rfl rfl ?_
      refine x_iload_n 29 dL_law_28 rfl rfl ?_
      refine x_sld 30 ⟨by omega, by omega⟩ hL rfl dL_law_29 rfl ?_
      refine x_bipush 32 dL_law_30 rfl ⟨by decide, by decide⟩ ?_
      refine x_iand (w := ((bx.2.2 (6 * (k : Int)).toNat) &&& 63).toInt) 33 dL_law_32 rfl (by rw [Int32.ofInt_toInt, Int32.ofInt_toInt]; rfl) ?_
      have hw : zi ((bx.2.2 (6 * (k : Int)).toNat) &&& 63).toInt := zi_i32
      generalize ((bx.2.2 (6 * (k : Int)).toNat) &&& 63).toInt = w at hw ⊢
      have K : ∀ t, J x y t → zL bx (56 + 5 * (k + 1)) (44674 + 47 * (k + 1)) 1295 [(3, vI (6 * (k : Int))), (2, vR (some y)), (1, vR (some x)), (0, vR (some bx.1))] [] t := fun t hJ => by
        refine x_iinc (lv' := [(3, _), (2, _), (1, _), (0, _)]) 1298 dL_law_1295 rfl rfl rfl rfl ?_
        refine x_goto 18 dL_law_1298 (by decide) ?_
        rw [show 6 * (k : Int) + 6 = 6 * ((k + 1 : Nat) : Int) by omega]
        exact ih (k + 1) t hJ (by omega) (by omega)
      by_cases hs : w < 0 ∨ 32 < w
      · refine x_swOut 1295 dL_law_33 hw hs (by decide) ?_
        refine x_widen (cu' := 56 + 5 * (k + 1)) (su' := 44674 + 47 * (k + 1)) (by omega) (by omega) ?_
        exact K _ hJ
      · obtain hs | hs | hs | hs | hs | hs | hs | hs | hs | hs | hs | hs | hs | hs | hs | hs | hs | hs | hs | hs | hs | hs | hs | hs | hs | hs | hs | hs | hs | hs | hs | hs | hs : w = 0 ∨ w = 1 ∨ w = 2 ∨ w = 3 ∨ w = 4 ∨ w = 5 ∨ w = 6 ∨ w = 7 ∨ w = 8 ∨ w = 9 ∨ w = 10 ∨ w = 11 ∨ w = 12 ∨ w = 13 ∨ w = 14 ∨ w = 15 ∨ w = 16 ∨ w = 17 ∨ w = 18 ∨ w = 19 ∨ w = 20 ∨ w = 21 ∨ w = 22 ∨ w = 23 ∨ w = 24 ∨ w = 25 ∨ w = 26 ∨ w = 27 ∨ w = 28 ∨ w = 29 ∨ w = 30 ∨ w = 31 ∨ w = 32 := by omega
        · subst hs
          refine x_swIn 180 dL_law_33 hw (by omega) (by omega) rfl (by decide) ?_
          exact law_0 hL hJ hk1 h6 K
        · subst hs
          refine x_swIn 213 dL_law_33 hw (by omega) (by omega) rfl (by decide) ?_
          exact law_1 hL hJ hk1 h6 K
        · subst hs
          refine x_swIn 246 dL_law_33 hw (by omega) (by omega) rfl (by decide) ?_
          exact law_2 hL hJ hk1 h6 K
        · subst hs
          refine x_swIn 269 dL_law_33 hw (by omega) (by omega) rfl (by decide) ?_
          exact law_3 hL hJ hk1 h6 K
        · subst hs
          refine x_swIn 282 dL_law_33 hw (by omega) (by omega) rfl (by decide) ?_
          exact law_4 hL hJ hk1 h6 K
        · subst hs
          refine x_swIn 325 dL_law_33 hw (by omega) (by omega) rfl (by decide) ?_
          exact law_5 hL hJ hk1 h6 K
        · subst hs
          refine x_swIn 368 dL_law_33 hw (by omega) (by omega) rfl (by decide) ?_
          exact law_6 hL hJ hk1 h6 K
        · subst hs
          refine x_swIn 391 dL_law_33 hw (by omega) (by omega) rfl (by decide) ?_
          exact law_7 hL hJ hk1 h6 K
        · subst hs
          refine x_swIn 424 dL_law_33 hw (by omega) (by omega) rfl (by decide) ?_
          exact law_8 hL hJ hk1 h6 K
        · subst hs
          refine x_swIn 457 dL_law_33 hw (by omega) (by omega) rfl (by decide) ?_
          exact law_9 hL hJ hk1 h6 K
        · subst hs
          refine x_swIn 480 dL_law_33 hw (by omega) (by omega) rfl (by decide) ?_
          exact law_10 hL hJ hk1 h6 K
        · subst hs
          refine x_swIn 513 dL_law_33 hw (by omega) (by omega) rfl (by decide) ?_
          exact law_11 hL hJ hk1 h6 K
        · subst hs
          refine x_swIn 536 dL_law_33 hw (by omega) (by omega) rfl (by decide) ?_
          exact law_12 hL hJ hk1 h6 K
        · subst hs
          refine x_swIn 599 dL_law_33 hw (by omega) (by omega) rfl (by decide) ?_
          exact law_13 hL hJ hk1 h6 K
        · subst hs
          refine x_swIn 662 dL_law_33 hw (by omega) (by omega) rfl (by decide) ?_
          exact law_14 hL hJ hk1 h6 K
        · subst hs
          refine x_swIn 723 dL_law_33 hw (by omega) (by omega) rfl (by decide) ?_
          exact law_15 hL hJ hk1 h6 K
        · subst hs
          refine x_swIn 774 dL_law_33 hw (by omega) (by omega) rfl (by decide) ?_
          exact law_16 hL hJ hk1 h6 K
        · subst hs
          refine x_swIn 797 dL_law_33 hw (by omega) (by omega) rfl (by decide) ?_
          exact law_17 hL hJ hk1 h6 K
        · subst hs
          refine x_swIn 821 dL_law_33 hw (by omega) (by omega) rfl (by decide) ?_
          exact law_18 hL hJ hk1 h6 K
        · subst hs
          refine x_swIn 882 dL_law_33 hw (by omega) (by omega) rfl (by decide) ?_
          exact law_19 hL hJ hk1 h6 K
        · subst hs
          refine x_swIn 943 dL_law_33 hw (by omega) (by omega) rfl (by decide) ?_
          exact law_20 hL hJ hk1 h6 K
        · subst hs
          refine x_swIn 987 dL_law_33 hw (by omega) (by omega) rfl (by decide) ?_
          exact law_21 hL hJ hk1 h6 K
        · subst hs
          refine x_swIn 1020 dL_law_33 hw (by omega) (by omega) rfl (by decide) ?_
          exact law_22 hL hJ hk1 h6 K
        · subst hs
          refine x_swIn 1043 dL_law_33 hw (by omega) (by omega) rfl (by decide) ?_
          exact law_23 hL hJ hk1 h6 K
        · subst hs
          refine x_swIn 1076 dL_law_33 hw (by omega) (by omega) rfl (by decide) ?_
          exact law_24 hL hJ hk1 h6 K
        · subst hs
          refine x_swIn 1109 dL_law_33 hw (by omega) (by omega) rfl (by decide) ?_
          exact law_25 hL hJ hk1 h6 K
        · subst hs
          refine x_swIn 1132 dL_law_33 hw (by omega) (by omega) rfl (by decide) ?_
          exact law_26 hL hJ hk1 h6 K
        · subst hs
          refine x_swIn 1155 dL_law_33 hw (by omega) (by omega) rfl (by decide) ?_
          exact law_27 hL hJ hk1 h6 K
        · subst hs
          refine x_swIn 1168 dL_law_33 hw (by omega) (by omega) rfl (by decide) ?_
          exact law_28 hL hJ hk1 h6 K
        · subst hs
          refine x_swIn 1181 dL_law_33 hw (by omega) (by omega) rfl (by decide) ?_
          exact law_29 hL hJ hk1 h6 K
        · subst hs
          refine x_swIn 1204 dL_law_33 hw (by omega) (by omega) rfl (by decide) ?_
          exact law_30 hL hJ hk1 h6 K
        · subst hs
          refine x_swIn 1217 dL_law_33 hw (by omega) (by omega) rfl (by decide) ?_
          exact law_31 hL hJ hk1 h6 K
        · subst hs
          refine x_swIn 1251 dL_law_33 hw (by omega) (by omega) rfl (by decide) ?_
          exact law_32 hL hJ hk1 h6 K
set_option maxRecDepth 20000 in
theorem law_all (hL : bx.2.1 ≤ 3072) : zL bx 0 0 0 [(0, vR (some bx.1))] [] ze := by
  refine x_new 3 nw_L_7 (by decide) (by decide) dL_law_0 rfl (fun x hx => ?_)
  have nx := sA_new (t := ze) (q := x) (kd := 3) (n := 0)
  refine x_dup 4 dL_law_3 rfl rfl ?_
  refine x_callI 7 [] la_X3_init ml_L_9 im_X3_init rfl (c_init nx.1 nx.2.1 nx.2.2.1 nx.2.2.2.1) rfl rfl (by decide) (Nat.le_of_ble_eq_true rfl) (by decide) (by decide) dL_law_4 rfl (fun r t1 hq => ?_)
  obtain ⟨rfl, hCP⟩ := hq
  refine x_astore_n (lv' := [(1, _), (0, _)]) 8 dL_law_7 rfl rfl rfl ?_
  refine x_new 11 nw_L_10 (by decide) (by decide) dL_law_8 rfl (fun y hy => ?_)
  rw [glue_new]
  have ny := sA_new (t := ze) (q := y) (kd := 4) (n := 0)
  refine x_dup 12 dL_law_11 rfl rfl ?_
  refine x_callI 15 [] la_X4_init ml_L_12 im_X4_init rfl (r_init ny.1 ny.2.1 ny.2.2.2.1).glueR rfl rfl (by decide) (Nat.le_of_ble_eq_true rfl) (by decide) (by decide) dL_law_12 rfl (fun r t2 hq => ?_)
  obtain ⟨t3, ⟨rfl, g, hRA⟩, rfl, hD⟩ := hq
  refine x_astore_n (lv' := [(2, _), (1, _), (0, _)]) 16 dL_law_15 rfl rfl rfl ?_
  refine x_iconst 17 dL_law_16 rfl ?_
  refine x_istore_n (lv' := [(3, _), (2, _), (1, _), (0, _)]) 18 dL_law_17 rfl rfl rfl ?_
  exact law_loop hL 513 0 _ (J.join hCP ⟨_, _, hRA, eqs.rf⟩ WG.kinit hD) (by decide) (by decide)
end LW
