/-! the switch's cases -/
def zHead (Γ : zΓ) (d n kc ks pc : Nat) (i : Int) (Q : zQ) : Prop := ∀ (g : Bool) (B : zB) (σ : zC) (τ : zTau) (S ik : Int → Int) (th : Int) (f : Nat → Int64) (o5 o6 o7 o8 : Option Value), zRel B σ S ik → zRun Γ md_L_law d none pc [some (.ref 0), some (.ref 5), some (.ref 167), some (.ref 171), some (.int (jI i)), o5, o6, o7, o8] [] (n, g, kc, ks) (bk 6 B (cr σ τ (mw S σ.sc ik th σ.T σ.L (zw0 f)))) Q
section CS
variable {Γ : zΓ} {d n kc ks L : Nat} {i : Int} {Q : zQ} {xs : Nat → Int32}
theorem case_put (hscr : zOld Γ 0 L xs) (hL : L ≤ 2048) (hi : 0 ≤ i ∧ i + 4 ≤ L) (hk : zHead Γ (d + 9) n kc ks 1863 i Q) : zHead Γ (d + 9) n (kc + 1) (ks + 6) 176 i Q := by
  intro g B σ τ S ik th f o5 o6 o7 o8 hR
  obtain ⟨k, v, B', σ', τ', f', hk0, hf, hLw, hMw⟩ := out_put (Γ := Γ) (d := d) (τ := τ) (th := th) (f := f) hR (jsc' xs (i + 1)) (jsc' xs (i + 2)) (jsc' xs (i + 3)) (jsc_r xs _) (jsc_r xs _) (jsc_r xs _)
  refine zr_aload_n dL_law_176 (rfl : 176 + 1 = 177) rfl ?_
  refine zr_aload_n dL_law_177 (rfl : 177 + 1 = 178) rfl ?_
  refine zr_iload dL_law_178 (rfl : 178 + 2 = 180) rfl ?_
  refine zr_iconst dL_law_180 (rfl : 180 + 1 = 181) ?_
  refine zr_iadd dL_law_181 (rfl : 181 + 1 = 182) (by first | exact jI_add _ _ | rfl) ?_
  refine zr_scr dL_law_182 (rfl : 182 + 1 = 183) hscr hL (by omega) (by omega) ?_
  refine zr_aload_n dL_law_183 (rfl : 183 + 1 = 184) rfl ?_
  refine zr_iload dL_law_184 (rfl : 184 + 2 = 186) rfl ?_
  refine zr_iconst dL_law_186 (rfl : 186 + 1 = 187) ?_
  refine zr_iadd dL_law_187 (rfl : 187 + 1 = 188) (by first | exact jI_add _ _ | rfl) ?_
  refine zr_scr dL_law_188 (rfl : 188 + 1 = 189) hscr hL (by omega) (by omega) ?_
  refine zr_aload_n dL_law_189 (rfl : 189 + 1 = 190) rfl ?_
  refine zr_iload dL_law_190 (rfl : 190 + 2 = 192) rfl ?_
  refine zr_iconst dL_law_192 (rfl : 192 + 1 = 193) ?_
  refine zr_iadd dL_law_193 (rfl : 193 + 1 = 194) (by first | exact jI_add _ _ | rfl) ?_
  refine zr_scr dL_law_194 (rfl : 194 + 1 = 195) hscr hL (by omega) (by omega) ?_
  refine zr_aload_n dL_law_195 (rfl : 195 + 1 = 196) rfl ?_
  refine zr_callH dL_law_196 (rfl : 196 + 3 = 199) l_L_98 (hLw n g) rfl rfl (Nat.le_of_ble_eq_true rfl) (by omega) (by omega) ?_ (fun _ _ _ _ q => q.elim)
  rintro r n1 g1 w1 ⟨rfl, rfl, rfl⟩
  rw [Nat.add_sub_cancel, Nat.add_sub_cancel]
  refine zr_istore (lv' := [_, _, _, _, _, _, _, _, _]) dL_law_199 (rfl : 199 + 2 = 201) (Nat.le_of_ble_eq_true rfl) rfl ?_
  refine zr_aload_n dL_law_201 (rfl : 201 + 1 = 202) rfl ?_
  refine zr_aload_n dL_law_202 (rfl : 202 + 1 = 203) rfl ?_
  refine zr_iload dL_law_203 (rfl : 203 + 2 = 205) rfl ?_
  refine zr_iconst dL_law_205 (rfl : 205 + 1 = 206) ?_
  refine zr_iadd dL_law_206 (rfl : 206 + 1 = 207) (by first | exact jI_add _ _ | rfl) ?_
  refine zr_scr dL_law_207 (rfl : 207 + 1 = 208) hscr hL (by omega) (by omega) ?_
  refine zr_aload_n dL_law_208 (rfl : 208 + 1 = 209) rfl ?_
  refine zr_iload dL_law_209 (rfl : 209 + 2 = 211) rfl ?_
  refine zr_iconst dL_law_211 (rfl : 211 + 1 = 212) ?_
  refine zr_iadd dL_law_212 (rfl : 212 + 1 = 213) (by first | exact jI_add _ _ | rfl) ?_
  refine zr_scr dL_law_213 (rfl : 213 + 1 = 214) hscr hL (by omega) (by omega) ?_
  refine zr_aload_n dL_law_214 (rfl : 214 + 1 = 215) rfl ?_
  refine zr_iload dL_law_215 (rfl : 215 + 2 = 217) rfl ?_
  refine zr_iconst dL_law_217 (rfl : 217 + 1 = 218) ?_
  refine zr_iadd dL_law_218 (rfl : 218 + 1 = 219) (by first | exact jI_add _ _ | rfl) ?_
  refine zr_scr dL_law_219 (rfl : 219 + 1 = 220) hscr hL (by omega) (by omega) ?_
  refine zr_feV dL_law_220 (rfl : 220 + 3 = 223) l_L_103 hMw lc_167 rfl rfl rfl (Nat.le_of_ble_eq_true rfl) ?_
  rintro _ _ ⟨rfl, S', ik', hR', rfl⟩
  refine zr_istore (lv' := [_, _, _, _, _, _, _, _, _]) dL_law_223 (rfl : 223 + 2 = 225) (Nat.le_of_ble_eq_true rfl) rfl ?_
  refine zr_aload_n dL_law_225 (rfl : 225 + 1 = 226) rfl ?_
  refine zr_fnV dL_law_226 (rfl : 226 + 3 = 229) l_L_104 l_thrown lc_167 rfl rfl rfl (Nat.le_of_ble_eq_true rfl) ?_
  refine zr_iload dL_law_229 (rfl : 229 + 2 = 231) rfl ?_
  refine zr_icmp_eq (tgt := 236) dL_law_231 (by decide) (rfl : 231 + 3 = 234) (jI_eq (by omega) (by omega) (by omega) (by omega)) (fun _ => ?_) (fun h => ?_)
  · refine zr_iload dL_law_236 (rfl : 236 + 2 = 238) rfl ?_
    refine zr_if_ne (tgt := 253) dL_law_238 (by decide) (rfl : 238 + 3 = 241) (jI_z (by omega) (by omega)) (fun _ => ?_) (fun hz => ?_)
    · refine zr_goto (tgt := 1863) dL_law_253 (by decide) ?_
      exact hk _ _ _ _ _ _ _ _ _ _ _ _ hR'
    · refine zr_aload_n dL_law_241 (rfl : 241 + 1 = 242) rfl ?_
      refine zr_iconst dL_law_242 (rfl : 242 + 1 = 243) ?_
      refine zr_laldR dL_law_243 (rfl : 243 + 1 = 244) lc_171 lc_in ?_
      rw [show f' (jI 0).toNatClampNeg = (jI v).toInt64 from hf hz]
      refine zr_iload dL_law_244 (rfl : 244 + 2 = 246) rfl ?_
      refine zr_i2l dL_law_246 (rfl : 246 + 1 = 247) ?_
      refine zr_lcmp dL_law_247 (rfl : 247 + 1 = 248) ?_
      rw [lc_cmp]
      refine zr_if_eq (tgt := 253) dL_law_248 (by decide) (rfl : 248 + 3 = 251) (jI_z (by decide) (by decide)) (fun _ => ?_) (fun h => absurd rfl h)
      refine zr_goto (tgt := 1863) dL_law_253 (by decide) ?_
      exact hk _ _ _ _ _ _ _ _ _ _ _ _ hR'
  · exact absurd rfl h
theorem case_take (hscr : zOld Γ 0 L xs) (hL : L ≤ 2048) (hi : 0 ≤ i ∧ i + 4 ≤ L) (hk : zHead Γ (d + 9) n kc ks 1863 i Q) : zHead Γ (d + 9) n (kc + 1) (ks + 6) 256 i Q := by
  intro g B σ τ S ik th f o5 o6 o7 o8 hR
  obtain ⟨k, v, B', σ', τ', f', hk0, hf, hLw, hMw⟩ := out_take (Γ := Γ) (d := d) (τ := τ) (th := th) (f := f) hR (jsc' xs (i + 1)) (jsc_r xs _)
  refine zr_aload_n dL_law_256 (rfl : 256 + 1 = 257) rfl ?_
  refine zr_aload_n dL_law_257 (rfl : 257 + 1 = 258) rfl ?_
  refine zr_iload dL_law_258 (rfl : 258 + 2 = 260) rfl ?_
  refine zr_iconst dL_law_260 (rfl : 260 + 1 = 261) ?_
  refine zr_iadd dL_law_261 (rfl : 261 + 1 = 262) (by first | exact jI_add _ _ | rfl) ?_
  refine zr_scr dL_law_262 (rfl : 262 + 1 = 263) hscr hL (by omega) (by omega) ?_
  refine zr_aload_n dL_law_263 (rfl : 263 + 1 = 264) rfl ?_
  refine zr_callH dL_law_264 (rfl : 264 + 3 = 267) l_L_107 (hLw n g) rfl rfl (Nat.le_of_ble_eq_true rfl) (by omega) (by omega) ?_ (fun _ _ _ _ q => q.elim)
  rintro r n1 g1 w1 ⟨rfl, rfl, rfl⟩
  rw [Nat.add_sub_cancel, Nat.add_sub_cancel]
  refine zr_istore (lv' := [_, _, _, _, _, _, _, _, _]) dL_law_267 (rfl : 267 + 2 = 269) (Nat.le_of_ble_eq_true rfl) rfl ?_
  refine zr_aload_n dL_law_269 (rfl : 269 + 1 = 270) rfl ?_
  refine zr_aload_n dL_law_270 (rfl : 270 + 1 = 271) rfl ?_
  refine zr_iload dL_law_271 (rfl : 271 + 2 = 273) rfl ?_
  refine zr_iconst dL_law_273 (rfl : 273 + 1 = 274) ?_
  refine zr_iadd dL_law_274 (rfl : 274 + 1 = 275) (by first | exact jI_add _ _ | rfl) ?_
  refine zr_scr dL_law_275 (rfl : 275 + 1 = 276) hscr hL (by omega) (by omega) ?_
  refine zr_feV dL_law_276 (rfl : 276 + 3 = 279) l_L_110 hMw lc_167 rfl rfl rfl (Nat.le_of_ble_eq_true rfl) ?_
  rintro _ _ ⟨rfl, S', ik', hR', rfl⟩
  refine zr_istore (lv' := [_, _, _, _, _, _, _, _, _]) dL_law_279 (rfl : 279 + 2 = 281) (Nat.le_of_ble_eq_true rfl) rfl ?_
  refine zr_aload_n dL_law_281 (rfl : 281 + 1 = 282) rfl ?_
  refine zr_fnV dL_law_282 (rfl : 282 + 3 = 285) l_L_104 l_thrown lc_167 rfl rfl rfl (Nat.le_of_ble_eq_true rfl) ?_
  refine zr_iload dL_law_285 (rfl : 285 + 2 = 287) rfl ?_
  refine zr_icmp_eq (tgt := 292) dL_law_287 (by decide) (rfl : 287 + 3 = 290) (jI_eq (by omega) (by omega) (by omega) (by omega)) (fun _ => ?_) (fun h => ?_)
  · refine zr_iload dL_law_292 (rfl : 292 + 2 = 294) rfl ?_
    refine zr_if_ne (tgt := 309) dL_law_294 (by decide) (rfl : 294 + 3 = 297) (jI_z (by omega) (by omega)) (fun _ => ?_) (fun hz => ?_)
    · refine zr_goto (tgt := 1863) dL_law_309 (by decide) ?_
      exact hk _ _ _ _ _ _ _ _ _ _ _ _ hR'
    · refine zr_aload_n dL_law_297 (rfl : 297 + 1 = 298) rfl ?_
      refine zr_iconst dL_law_298 (rfl : 298 + 1 = 299) ?_
      refine zr_laldR dL_law_299 (rfl : 299 + 1 = 300) lc_171 lc_in ?_
      rw [show f' (jI 0).toNatClampNeg = (jI v).toInt64 from hf hz]
      refine zr_iload dL_law_300 (rfl : 300 + 2 = 302) rfl ?_
      refine zr_i2l dL_law_302 (rfl : 302 + 1 = 303) ?_
      refine zr_lcmp dL_law_303 (rfl : 303 + 1 = 304) ?_
      rw [lc_cmp]
      refine zr_if_eq (tgt := 309) dL_law_304 (by decide) (rfl : 304 + 3 = 307) (jI_z (by decide) (by decide)) (fun _ => ?_) (fun h => absurd rfl h)
      refine zr_goto (tgt := 1863) dL_law_309 (by decide) ?_
      exact hk _ _ _ _ _ _ _ _ _ _ _ _ hR'
  · exact absurd rfl h
theorem case_fill (hscr : zOld Γ 0 L xs) (hL : L ≤ 2048) (hi : 0 ≤ i ∧ i + 4 ≤ L) (hk : zHead Γ (d + 9) n kc ks 1863 i Q) : zHead Γ (d + 9) n (kc + 1) (ks + 6) 312 i Q := by
  intro g B σ τ S ik th f o5 o6 o7 o8 hR
  obtain ⟨k, v, B', σ', τ', f', hk0, hf, hLw, hMw⟩ := out_fill (Γ := Γ) (d := d) (τ := τ) (th := th) (f := f) hR (jsc' xs (i + 1)) (jsc' xs (i + 2)) (jsc_r xs _) (jsc_r xs _)
  refine zr_aload_n dL_law_312 (rfl : 312 + 1 = 313) rfl ?_
  refine zr_aload_n dL_law_313 (rfl : 313 + 1 = 314) rfl ?_
  refine zr_iload dL_law_314 (rfl : 314 + 2 = 316) rfl ?_
  refine zr_iconst dL_law_316 (rfl : 316 + 1 = 317) ?_
  refine zr_iadd dL_law_317 (rfl : 317 + 1 = 318) (by first | exact jI_add _ _ | rfl) ?_
  refine zr_scr dL_law_318 (rfl : 318 + 1 = 319) hscr hL (by omega) (by omega) ?_
  refine zr_aload_n dL_law_319 (rfl : 319 + 1 = 320) rfl ?_
  refine zr_iload dL_law_320 (rfl : 320 + 2 = 322) rfl ?_
  refine zr_iconst dL_law_322 (rfl : 322 + 1 = 323) ?_
  refine zr_iadd dL_law_323 (rfl : 323 + 1 = 324) (by first | exact jI_add _ _ | rfl) ?_
  refine zr_scr dL_law_324 (rfl : 324 + 1 = 325) hscr hL (by omega) (by omega) ?_
  refine zr_aload_n dL_law_325 (rfl : 325 + 1 = 326) rfl ?_
  refine zr_callH dL_law_326 (rfl : 326 + 3 = 329) l_L_111 (hLw n g) rfl rfl (Nat.le_of_ble_eq_true rfl) (by omega) (by omega) ?_ (fun _ _ _ _ q => q.elim)
  rintro r n1 g1 w1 ⟨rfl, rfl, rfl⟩
  rw [Nat.add_sub_cancel, Nat.add_sub_cancel]
  refine zr_istore (lv' := [_, _, _, _, _, _, _, _, _]) dL_law_329 (rfl : 329 + 2 = 331) (Nat.le_of_ble_eq_true rfl) rfl ?_
  refine zr_aload_n dL_law_331 (rfl : 331 + 1 = 332) rfl ?_
  refine zr_aload_n dL_law_332 (rfl : 332 + 1 = 333) rfl ?_
  refine zr_iload dL_law_333 (rfl : 333 + 2 = 335) rfl ?_
  refine zr_iconst dL_law_335 (rfl : 335 + 1 = 336) ?_
  refine zr_iadd dL_law_336 (rfl : 336 + 1 = 337) (by first | exact jI_add _ _ | rfl) ?_
  refine zr_scr dL_law_337 (rfl : 337 + 1 = 338) hscr hL (by omega) (by omega) ?_
  refine zr_aload_n dL_law_338 (rfl : 338 + 1 = 339) rfl ?_
  refine zr_iload dL_law_339 (rfl : 339 + 2 = 341) rfl ?_
  refine zr_iconst dL_law_341 (rfl : 341 + 1 = 342) ?_
  refine zr_iadd dL_law_342 (rfl : 342 + 1 = 343) (by first | exact jI_add _ _ | rfl) ?_
  refine zr_scr dL_law_343 (rfl : 343 + 1 = 344) hscr hL (by omega) (by omega) ?_
  refine zr_feV dL_law_344 (rfl : 344 + 3 = 347) l_L_114 hMw lc_167 rfl rfl rfl (Nat.le_of_ble_eq_true rfl) ?_
  rintro _ _ ⟨rfl, S', ik', hR', rfl⟩
  refine zr_istore (lv' := [_, _, _, _, _, _, _, _, _]) dL_law_347 (rfl : 347 + 2 = 349) (Nat.le_of_ble_eq_true rfl) rfl ?_
  refine zr_aload_n dL_law_349 (rfl : 349 + 1 = 350) rfl ?_
  refine zr_fnV dL_law_350 (rfl : 350 + 3 = 353) l_L_104 l_thrown lc_167 rfl rfl rfl (Nat.le_of_ble_eq_true rfl) ?_
  refine zr_iload dL_law_353 (rfl : 353 + 2 = 355) rfl ?_
  refine zr_icmp_eq (tgt := 360) dL_law_355 (by decide) (rfl : 355 + 3 = 358) (jI_eq (by omega) (by omega) (by omega) (by omega)) (fun _ => ?_) (fun h => ?_)
  · refine zr_iload dL_law_360 (rfl : 360 + 2 = 362) rfl ?_
    refine zr_if_ne (tgt := 377) dL_law_362 (by decide) (rfl : 362 + 3 = 365) (jI_z (by omega) (by omega)) (fun _ => ?_) (fun hz => ?_)
    · refine zr_goto (tgt := 1863) dL_law_377 (by decide) ?_
      exact hk _ _ _ _ _ _ _ _ _ _ _ _ hR'
    · refine zr_aload_n dL_law_365 (rfl : 365 + 1 = 366) rfl ?_
      refine zr_iconst dL_law_366 (rfl : 366 + 1 = 367) ?_
      refine zr_laldR dL_law_367 (rfl : 367 + 1 = 368) lc_171 lc_in ?_
      rw [show f' (jI 0).toNatClampNeg = (jI v).toInt64 from hf hz]
      refine zr_iload dL_law_368 (rfl : 368 + 2 = 370) rfl ?_
      refine zr_i2l dL_law_370 (rfl : 370 + 1 = 371) ?_
      refine zr_lcmp dL_law_371 (rfl : 371 + 1 = 372) ?_
      rw [lc_cmp]
      refine zr_if_eq (tgt := 377) dL_law_372 (by decide) (rfl : 372 + 3 = 375) (jI_z (by decide) (by decide)) (fun _ => ?_) (fun h => absurd rfl h)
      refine zr_goto (tgt := 1863) dL_law_377 (by decide) ?_
      exact hk _ _ _ _ _ _ _ _ _ _ _ _ hR'
  · exact absurd rfl h
theorem case_buy (hscr : zOld Γ 0 L xs) (hL : L ≤ 2048) (hi : 0 ≤ i ∧ i + 4 ≤ L) (hk : zHead Γ (d + 9) n kc ks 1863 i Q) : zHead Γ (d + 9) n (kc + 1) (ks + 6) 380 i Q := by
  intro g B σ τ S ik th f o5 o6 o7 o8 hR
  obtain ⟨k, v, B', σ', τ', f', hk0, hf, hLw, hMw⟩ := out_buy (Γ := Γ) (d := d) (τ := τ) (th := th) (f := f) hR (jsc' xs (i + 1)) (jsc_r xs _)
  refine zr_aload_n dL_law_380 (rfl : 380 + 1 = 381) rfl ?_
  refine zr_aload_n dL_law_381 (rfl : 381 + 1 = 382) rfl ?_
  refine zr_iload dL_law_382 (rfl : 382 + 2 = 384) rfl ?_
  refine zr_iconst dL_law_384 (rfl : 384 + 1 = 385) ?_
  refine zr_iadd dL_law_385 (rfl : 385 + 1 = 386) (by first | exact jI_add _ _ | rfl) ?_
  refine zr_scr dL_law_386 (rfl : 386 + 1 = 387) hscr hL (by omega) (by omega) ?_
  refine zr_aload_n dL_law_387 (rfl : 387 + 1 = 388) rfl ?_
  refine zr_callH dL_law_388 (rfl : 388 + 3 = 391) l_L_115 (hLw n g) rfl rfl (Nat.le_of_ble_eq_true rfl) (by omega) (by omega) ?_ (fun _ _ _ _ q => q.elim)
  rintro r n1 g1 w1 ⟨rfl, rfl, rfl⟩
  rw [Nat.add_sub_cancel, Nat.add_sub_cancel]
  refine zr_istore (lv' := [_, _, _, _, _, _, _, _, _]) dL_law_391 (rfl : 391 + 2 = 393) (Nat.le_of_ble_eq_true rfl) rfl ?_
  refine zr_aload_n dL_law_393 (rfl : 393 + 1 = 394) rfl ?_
  refine zr_aload_n dL_law_394 (rfl : 394 + 1 = 395) rfl ?_
  refine zr_iload dL_law_395 (rfl : 395 + 2 = 397) rfl ?_
  refine zr_iconst dL_law_397 (rfl : 397 + 1 = 398) ?_
  refine zr_iadd dL_law_398 (rfl : 398 + 1 = 399) (by first | exact jI_add _ _ | rfl) ?_
  refine zr_scr dL_law_399 (rfl : 399 + 1 = 400) hscr hL (by omega) (by omega) ?_
  refine zr_feV dL_law_400 (rfl : 400 + 3 = 403) l_L_117 hMw lc_167 rfl rfl rfl (Nat.le_of_ble_eq_true rfl) ?_
  rintro _ _ ⟨rfl, S', ik', hR', rfl⟩
  refine zr_istore (lv' := [_, _, _, _, _, _, _, _, _]) dL_law_403 (rfl : 403 + 2 = 405) (Nat.le_of_ble_eq_true rfl) rfl ?_
  refine zr_aload_n dL_law_405 (rfl : 405 + 1 = 406) rfl ?_
  refine zr_fnV dL_law_406 (rfl : 406 + 3 = 409) l_L_104 l_thrown lc_167 rfl rfl rfl (Nat.le_of_ble_eq_true rfl) ?_
  refine zr_iload dL_law_409 (rfl : 409 + 2 = 411) rfl ?_
  refine zr_icmp_eq (tgt := 416) dL_law_411 (by decide) (rfl : 411 + 3 = 414) (jI_eq (by omega) (by omega) (by omega) (by omega)) (fun _ => ?_) (fun h => ?_)
  · refine zr_iload dL_law_416 (rfl : 416 + 2 = 418) rfl ?_
    refine zr_if_ne (tgt := 433) dL_law_418 (by decide) (rfl : 418 + 3 = 421) (jI_z (by omega) (by omega)) (fun _ => ?_) (fun hz => ?_)
    · refine zr_goto (tgt := 1863) dL_law_433 (by decide) ?_
      exact hk _ _ _ _ _ _ _ _ _ _ _ _ hR'
    · refine zr_aload_n dL_law_421 (rfl : 421 + 1 = 422) rfl ?_
      refine zr_iconst dL_law_422 (rfl : 422 + 1 = 423) ?_
      refine zr_laldR dL_law_423 (rfl : 423 + 1 = 424) lc_171 lc_in ?_
      rw [show f' (jI 0).toNatClampNeg = (jI v).toInt64 from hf hz]
      refine zr_iload dL_law_424 (rfl : 424 + 2 = 426) rfl ?_
      refine zr_i2l dL_law_426 (rfl : 426 + 1 = 427) ?_
      refine zr_lcmp dL_law_427 (rfl : 427 + 1 = 428) ?_
      rw [lc_cmp]
      refine zr_if_eq (tgt := 433) dL_law_428 (by decide) (rfl : 428 + 3 = 431) (jI_z (by decide) (by decide)) (fun _ => ?_) (fun h => absurd rfl h)
      refine zr_goto (tgt := 1863) dL_law_433 (by decide) ?_
      exact hk _ _ _ _ _ _ _ _ _ _ _ _ hR'
  · exact absurd rfl h
theorem case_seed (hscr : zOld Γ 0 L xs) (hL : L ≤ 2048) (hi : 0 ≤ i ∧ i + 4 ≤ L) (hk : zHead Γ (d + 9) n kc ks 1863 i Q) : zHead Γ (d + 9) n (kc + 1) (ks + 6) 436 i Q := by
  intro g B σ τ S ik th f o5 o6 o7 o8 hR
  obtain ⟨k, v, B', σ', τ', f', hk0, hf, hLw, hMw⟩ := out_seed (Γ := Γ) (d := d) (τ := τ) (th := th) (f := f) hR (jsc' xs (i + 1)) (jsc_r xs _)
  refine zr_aload_n dL_law_436 (rfl : 436 + 1 = 437) rfl ?_
  refine zr_aload_n dL_law_437 (rfl : 437 + 1 = 438) rfl ?_
  refine zr_iload dL_law_438 (rfl : 438 + 2 = 440) rfl ?_
  refine zr_iconst dL_law_440 (rfl : 440 + 1 = 441) ?_
  refine zr_iadd dL_law_441 (rfl : 441 + 1 = 442) (by first | exact jI_add _ _ | rfl) ?_
  refine zr_scr dL_law_442 (rfl : 442 + 1 = 443) hscr hL (by omega) (by omega) ?_
  refine zr_aload_n dL_law_443 (rfl : 443 + 1 = 444) rfl ?_
  refine zr_callH dL_law_444 (rfl : 444 + 3 = 447) l_L_118 (hLw n g) rfl rfl (Nat.le_of_ble_eq_true rfl) (by omega) (by omega) ?_ (fun _ _ _ _ q => q.elim)
  rintro r n1 g1 w1 ⟨rfl, rfl, rfl⟩
  rw [Nat.add_sub_cancel, Nat.add_sub_cancel]
  refine zr_istore (lv' := [_, _, _, _, _, _, _, _, _]) dL_law_447 (rfl : 447 + 2 = 449) (Nat.le_of_ble_eq_true rfl) rfl ?_
  refine zr_aload_n dL_law_449 (rfl : 449 + 1 = 450) rfl ?_
  refine zr_aload_n dL_law_450 (rfl : 450 + 1 = 451) rfl ?_
  refine zr_iload dL_law_451 (rfl : 451 + 2 = 453) rfl ?_
  refine zr_iconst dL_law_453 (rfl : 453 + 1 = 454) ?_
  refine zr_iadd dL_law_454 (rfl : 454 + 1 = 455) (by first | exact jI_add _ _ | rfl) ?_
  refine zr_scr dL_law_455 (rfl : 455 + 1 = 456) hscr hL (by omega) (by omega) ?_
  refine zr_feV dL_law_456 (rfl : 456 + 3 = 459) l_L_120 hMw lc_167 rfl rfl rfl (Nat.le_of_ble_eq_true rfl) ?_
  rintro _ _ ⟨rfl, S', ik', hR', rfl⟩
  refine zr_istore (lv' := [_, _, _, _, _, _, _, _, _]) dL_law_459 (rfl : 459 + 2 = 461) (Nat.le_of_ble_eq_true rfl) rfl ?_
  refine zr_aload_n dL_law_461 (rfl : 461 + 1 = 462) rfl ?_
  refine zr_fnV dL_law_462 (rfl : 462 + 3 = 465) l_L_104 l_thrown lc_167 rfl rfl rfl (Nat.le_of_ble_eq_true rfl) ?_
  refine zr_iload dL_law_465 (rfl : 465 + 2 = 467) rfl ?_
  refine zr_icmp_eq (tgt := 472) dL_law_467 (by decide) (rfl : 467 + 3 = 470) (jI_eq (by omega) (by omega) (by omega) (by omega)) (fun _ => ?_) (fun h => ?_)
  · refine zr_iload dL_law_472 (rfl : 472 + 2 = 474) rfl ?_
    refine zr_if_ne (tgt := 489) dL_law_474 (by decide) (rfl : 474 + 3 = 477) (jI_z (by omega) (by omega)) (fun _ => ?_) (fun hz => ?_)
    · refine zr_goto (tgt := 1863) dL_law_489 (by decide) ?_
      exact hk _ _ _ _ _ _ _ _ _ _ _ _ hR'
    · refine zr_aload_n dL_law_477 (rfl : 477 + 1 = 478) rfl ?_
      refine zr_iconst dL_law_478 (rfl : 478 + 1 = 479) ?_
      refine zr_laldR dL_law_479 (rfl : 479 + 1 = 480) lc_171 lc_in ?_
      rw [show f' (jI 0).toNatClampNeg = (jI v).toInt64 from hf hz]
      refine zr_iload dL_law_480 (rfl : 480 + 2 = 482) rfl ?_
      refine zr_i2l dL_law_482 (rfl : 482 + 1 = 483) ?_
      refine zr_lcmp dL_law_483 (rfl : 483 + 1 = 484) ?_
      rw [lc_cmp]
      refine zr_if_eq (tgt := 489) dL_law_484 (by decide) (rfl : 484 + 3 = 487) (jI_z (by decide) (by decide)) (fun _ => ?_) (fun h => absurd rfl h)
      refine zr_goto (tgt := 1863) dL_law_489 (by decide) ?_
      exact hk _ _ _ _ _ _ _ _ _ _ _ _ hR'
  · exact absurd rfl h
theorem case_set (hscr : zOld Γ 0 L xs) (hL : L ≤ 2048) (hi : 0 ≤ i ∧ i + 4 ≤ L) (hk : zHead Γ (d + 9) n kc ks 1863 i Q) : zHead Γ (d + 9) n (kc + 1) (ks + 6) 492 i Q := by
  intro g B σ τ S ik th f o5 o6 o7 o8 hR
  obtain ⟨k, v, B', σ', τ', f', hk0, hf, hLw, hMw⟩ := out_set (Γ := Γ) (d := d) (τ := τ) (th := th) (f := f) hR (jsc' xs (i + 1)) (jsc' xs (i + 2)) (jsc_r xs _) (jsc_r xs _)
  refine zr_aload_n dL_law_492 (rfl : 492 + 1 = 493) rfl ?_
  refine zr_aload_n dL_law_493 (rfl : 493 + 1 = 494) rfl ?_
  refine zr_iload dL_law_494 (rfl : 494 + 2 = 496) rfl ?_
  refine zr_iconst dL_law_496 (rfl : 496 + 1 = 497) ?_
  refine zr_iadd dL_law_497 (rfl : 497 + 1 = 498) (by first | exact jI_add _ _ | rfl) ?_
  refine zr_scr dL_law_498 (rfl : 498 + 1 = 499) hscr hL (by omega) (by omega) ?_
  refine zr_aload_n dL_law_499 (rfl : 499 + 1 = 500) rfl ?_
  refine zr_iload dL_law_500 (rfl : 500 + 2 = 502) rfl ?_
  refine zr_iconst dL_law_502 (rfl : 502 + 1 = 503) ?_
  refine zr_iadd dL_law_503 (rfl : 503 + 1 = 504) (by first | exact jI_add _ _ | rfl) ?_
  refine zr_scr dL_law_504 (rfl : 504 + 1 = 505) hscr hL (by omega) (by omega) ?_
  refine zr_aload_n dL_law_505 (rfl : 505 + 1 = 506) rfl ?_
  refine zr_callH dL_law_506 (rfl : 506 + 3 = 509) l_L_121 (hLw n g) rfl rfl (Nat.le_of_ble_eq_true rfl) (by omega) (by omega) ?_ (fun _ _ _ _ q => q.elim)
  rintro r n1 g1 w1 ⟨rfl, rfl, rfl⟩
  rw [Nat.add_sub_cancel, Nat.add_sub_cancel]
  refine zr_istore (lv' := [_, _, _, _, _, _, _, _, _]) dL_law_509 (rfl : 509 + 2 = 511) (Nat.le_of_ble_eq_true rfl) rfl ?_
  refine zr_aload_n dL_law_511 (rfl : 511 + 1 = 512) rfl ?_
  refine zr_aload_n dL_law_512 (rfl : 512 + 1 = 513) rfl ?_
  refine zr_iload dL_law_513 (rfl : 513 + 2 = 515) rfl ?_
  refine zr_iconst dL_law_515 (rfl : 515 + 1 = 516) ?_
  refine zr_iadd dL_law_516 (rfl : 516 + 1 = 517) (by first | exact jI_add _ _ | rfl) ?_
  refine zr_scr dL_law_517 (rfl : 517 + 1 = 518) hscr hL (by omega) (by omega) ?_
  refine zr_aload_n dL_law_518 (rfl : 518 + 1 = 519) rfl ?_
  refine zr_iload dL_law_519 (rfl : 519 + 2 = 521) rfl ?_
  refine zr_iconst dL_law_521 (rfl : 521 + 1 = 522) ?_
  refine zr_iadd dL_law_522 (rfl : 522 + 1 = 523) (by first | exact jI_add _ _ | rfl) ?_
  refine zr_scr dL_law_523 (rfl : 523 + 1 = 524) hscr hL (by omega) (by omega) ?_
  refine zr_feV dL_law_524 (rfl : 524 + 3 = 527) l_L_123 hMw lc_167 rfl rfl rfl (Nat.le_of_ble_eq_true rfl) ?_
  rintro _ _ ⟨rfl, S', ik', hR', rfl⟩
  refine zr_istore (lv' := [_, _, _, _, _, _, _, _, _]) dL_law_527 (rfl : 527 + 2 = 529) (Nat.le_of_ble_eq_true rfl) rfl ?_
  refine zr_aload_n dL_law_529 (rfl : 529 + 1 = 530) rfl ?_
  refine zr_fnV dL_law_530 (rfl : 530 + 3 = 533) l_L_104 l_thrown lc_167 rfl rfl rfl (Nat.le_of_ble_eq_true rfl) ?_
  refine zr_iload dL_law_533 (rfl : 533 + 2 = 535) rfl ?_
  refine zr_icmp_eq (tgt := 540) dL_law_535 (by decide) (rfl : 535 + 3 = 538) (jI_eq (by omega) (by omega) (by omega) (by omega)) (fun _ => ?_) (fun h => ?_)
  · refine zr_iload dL_law_540 (rfl : 540 + 2 = 542) rfl ?_
    refine zr_if_ne (tgt := 557) dL_law_542 (by decide) (rfl : 542 + 3 = 545) (jI_z (by omega) (by omega)) (fun _ => ?_) (fun hz => ?_)
    · refine zr_goto (tgt := 1863) dL_law_557 (by decide) ?_
      exact hk _ _ _ _ _ _ _ _ _ _ _ _ hR'
    · refine zr_aload_n dL_law_545 (rfl : 545 + 1 = 546) rfl ?_
      refine zr_iconst dL_law_546 (rfl : 546 + 1 = 547) ?_
      refine zr_laldR dL_law_547 (rfl : 547 + 1 = 548) lc_171 lc_in ?_
      rw [show f' (jI 0).toNatClampNeg = (jI v).toInt64 from hf hz]
      refine zr_iload dL_law_548 (rfl : 548 + 2 = 550) rfl ?_
      refine zr_i2l dL_law_550 (rfl : 550 + 1 = 551) ?_
      refine zr_lcmp dL_law_551 (rfl : 551 + 1 = 552) ?_
      rw [lc_cmp]
      refine zr_if_eq (tgt := 557) dL_law_552 (by decide) (rfl : 552 + 3 = 555) (jI_z (by decide) (by decide)) (fun _ => ?_) (fun h => absurd rfl h)
      refine zr_goto (tgt := 1863) dL_law_557 (by decide) ?_
      exact hk _ _ _ _ _ _ _ _ _ _ _ _ hR'
  · exact absurd rfl h
theorem case_draw (hscr : zOld Γ 0 L xs) (hL : L ≤ 2048) (hi : 0 ≤ i ∧ i + 4 ≤ L) (hk : zHead Γ (d + 9) n kc ks 1863 i Q) : zHead Γ (d + 9) n (kc + 1) (ks + 6) 560 i Q := by
  intro g B σ τ S ik th f o5 o6 o7 o8 hR
  obtain ⟨k, v, B', σ', τ', f', hk0, hf, hLw, hMw⟩ := out_draw (Γ := Γ) (d := d) (τ := τ) (th := th) (f := f) hR (jsc' xs (i + 1)) (jsc_r xs _)
  refine zr_aload_n dL_law_560 (rfl : 560 + 1 = 561) rfl ?_
  refine zr_aload_n dL_law_561 (rfl : 561 + 1 = 562) rfl ?_
  refine zr_iload dL_law_562 (rfl : 562 + 2 = 564) rfl ?_
  refine zr_iconst dL_law_564 (rfl : 564 + 1 = 565) ?_
  refine zr_iadd dL_law_565 (rfl : 565 + 1 = 566) (by first | exact jI_add _ _ | rfl) ?_
  refine zr_scr dL_law_566 (rfl : 566 + 1 = 567) hscr hL (by omega) (by omega) ?_
  refine zr_aload_n dL_law_567 (rfl : 567 + 1 = 568) rfl ?_
  refine zr_callH dL_law_568 (rfl : 568 + 3 = 571) l_L_124 (hLw n g) rfl rfl (Nat.le_of_ble_eq_true rfl) (by omega) (by omega) ?_ (fun _ _ _ _ q => q.elim)
  rintro r n1 g1 w1 ⟨rfl, rfl, rfl⟩
  rw [Nat.add_sub_cancel, Nat.add_sub_cancel]
  refine zr_istore (lv' := [_, _, _, _, _, _, _, _, _]) dL_law_571 (rfl : 571 + 2 = 573) (Nat.le_of_ble_eq_true rfl) rfl ?_
  refine zr_aload_n dL_law_573 (rfl : 573 + 1 = 574) rfl ?_
  refine zr_aload_n dL_law_574 (rfl : 574 + 1 = 575) rfl ?_
  refine zr_iload dL_law_575 (rfl : 575 + 2 = 577) rfl ?_
  refine zr_iconst dL_law_577 (rfl : 577 + 1 = 578) ?_
  refine zr_iadd dL_law_578 (rfl : 578 + 1 = 579) (by first | exact jI_add _ _ | rfl) ?_
  refine zr_scr dL_law_579 (rfl : 579 + 1 = 580) hscr hL (by omega) (by omega) ?_
  refine zr_feV dL_law_580 (rfl : 580 + 3 = 583) l_L_126 hMw lc_167 rfl rfl rfl (Nat.le_of_ble_eq_true rfl) ?_
  rintro _ _ ⟨rfl, S', ik', hR', rfl⟩
  refine zr_istore (lv' := [_, _, _, _, _, _, _, _, _]) dL_law_583 (rfl : 583 + 2 = 585) (Nat.le_of_ble_eq_true rfl) rfl ?_
  refine zr_aload_n dL_law_585 (rfl : 585 + 1 = 586) rfl ?_
  refine zr_fnV dL_law_586 (rfl : 586 + 3 = 589) l_L_104 l_thrown lc_167 rfl rfl rfl (Nat.le_of_ble_eq_true rfl) ?_
  refine zr_iload dL_law_589 (rfl : 589 + 2 = 591) rfl ?_
  refine zr_icmp_eq (tgt := 596) dL_law_591 (by decide) (rfl : 591 + 3 = 594) (jI_eq (by omega) (by omega) (by omega) (by omega)) (fun _ => ?_) (fun h => ?_)
  · refine zr_iload dL_law_596 (rfl : 596 + 2 = 598) rfl ?_
    refine zr_if_ne (tgt := 613) dL_law_598 (by decide) (rfl : 598 + 3 = 601) (jI_z (by omega) (by omega)) (fun _ => ?_) (fun hz => ?_)
    · refine zr_goto (tgt := 1863) dL_law_613 (by decide) ?_
      exact hk _ _ _ _ _ _ _ _ _ _ _ _ hR'
    · refine zr_aload_n dL_law_601 (rfl : 601 + 1 = 602) rfl ?_
      refine zr_iconst dL_law_602 (rfl : 602 + 1 = 603) ?_
      refine zr_laldR dL_law_603 (rfl : 603 + 1 = 604) lc_171 lc_in ?_
      rw [show f' (jI 0).toNatClampNeg = (jI v).toInt64 from hf hz]
      refine zr_iload dL_law_604 (rfl : 604 + 2 = 606) rfl ?_
      refine zr_i2l dL_law_606 (rfl : 606 + 1 = 607) ?_
      refine zr_lcmp dL_law_607 (rfl : 607 + 1 = 608) ?_
      rw [lc_cmp]
      refine zr_if_eq (tgt := 613) dL_law_608 (by decide) (rfl : 608 + 3 = 611) (jI_z (by decide) (by decide)) (fun _ => ?_) (fun h => absurd rfl h)
      refine zr_goto (tgt := 1863) dL_law_613 (by decide) ?_
      exact hk _ _ _ _ _ _ _ _ _ _ _ _ hR'
  · exact absurd rfl h
theorem case_claim (hscr : zOld Γ 0 L xs) (hL : L ≤ 2048) (hi : 0 ≤ i ∧ i + 4 ≤ L) (hk : zHead Γ (d + 9) n kc ks 1863 i Q) : zHead Γ (d + 9) n (kc + 1) (ks + 6) 616 i Q := by
  intro g B σ τ S ik th f o5 o6 o7 o8 hR
  obtain ⟨k, v, B', σ', τ', f', hk0, hf, hLw, hMw⟩ := out_claim (Γ := Γ) (d := d) (τ := τ) (th := th) (f := f) hR (jsc' xs (i + 1)) (jsc' xs (i + 2)) (jsc_r xs _) (jsc_r xs _)
  refine zr_aload_n dL_law_616 (rfl : 616 + 1 = 617) rfl ?_
  refine zr_aload_n dL_law_617 (rfl : 617 + 1 = 618) rfl ?_
  refine zr_iload dL_law_618 (rfl : 618 + 2 = 620) rfl ?_
  refine zr_iconst dL_law_620 (rfl : 620 + 1 = 621) ?_
  refine zr_iadd dL_law_621 (rfl : 621 + 1 = 622) (by first | exact jI_add _ _ | rfl) ?_
  refine zr_scr dL_law_622 (rfl : 622 + 1 = 623) hscr hL (by omega) (by omega) ?_
  refine zr_aload_n dL_law_623 (rfl : 623 + 1 = 624) rfl ?_
  refine zr_iload dL_law_624 (rfl : 624 + 2 = 626) rfl ?_
  refine zr_iconst dL_law_626 (rfl : 626 + 1 = 627) ?_
  refine zr_iadd dL_law_627 (rfl : 627 + 1 = 628) (by first | exact jI_add _ _ | rfl) ?_
  refine zr_scr dL_law_628 (rfl : 628 + 1 = 629) hscr hL (by omega) (by omega) ?_
  refine zr_aload_n dL_law_629 (rfl : 629 + 1 = 630) rfl ?_
  refine zr_callH dL_law_630 (rfl : 630 + 3 = 633) l_L_127 (hLw n g) rfl rfl (Nat.le_of_ble_eq_true rfl) (by omega) (by omega) ?_ (fun _ _ _ _ q => q.elim)
  rintro r n1 g1 w1 ⟨rfl, rfl, rfl⟩
  rw [Nat.add_sub_cancel, Nat.add_sub_cancel]
  refine zr_istore (lv' := [_, _, _, _, _, _, _, _, _]) dL_law_633 (rfl : 633 + 2 = 635) (Nat.le_of_ble_eq_true rfl) rfl ?_
  refine zr_aload_n dL_law_635 (rfl : 635 + 1 = 636) rfl ?_
  refine zr_aload_n dL_law_636 (rfl : 636 + 1 = 637) rfl ?_
  refine zr_iload dL_law_637 (rfl : 637 + 2 = 639) rfl ?_
  refine zr_iconst dL_law_639 (rfl : 639 + 1 = 640) ?_
  refine zr_iadd dL_law_640 (rfl : 640 + 1 = 641) (by first | exact jI_add _ _ | rfl) ?_
  refine zr_scr dL_law_641 (rfl : 641 + 1 = 642) hscr hL (by omega) (by omega) ?_
  refine zr_aload_n dL_law_642 (rfl : 642 + 1 = 643) rfl ?_
  refine zr_iload dL_law_643 (rfl : 643 + 2 = 645) rfl ?_
  refine zr_iconst dL_law_645 (rfl : 645 + 1 = 646) ?_
  refine zr_iadd dL_law_646 (rfl : 646 + 1 = 647) (by first | exact jI_add _ _ | rfl) ?_
  refine zr_scr dL_law_647 (rfl : 647 + 1 = 648) hscr hL (by omega) (by omega) ?_
  refine zr_feV dL_law_648 (rfl : 648 + 3 = 651) l_L_129 hMw lc_167 rfl rfl rfl (Nat.le_of_ble_eq_true rfl) ?_
  rintro _ _ ⟨rfl, S', ik', hR', rfl⟩
  refine zr_istore (lv' := [_, _, _, _, _, _, _, _, _]) dL_law_651 (rfl : 651 + 2 = 653) (Nat.le_of_ble_eq_true rfl) rfl ?_
  refine zr_aload_n dL_law_653 (rfl : 653 + 1 = 654) rfl ?_
  refine zr_fnV dL_law_654 (rfl : 654 + 3 = 657) l_L_104 l_thrown lc_167 rfl rfl rfl (Nat.le_of_ble_eq_true rfl) ?_
  refine zr_iload dL_law_657 (rfl : 657 + 2 = 659) rfl ?_
  refine zr_icmp_eq (tgt := 664) dL_law_659 (by decide) (rfl : 659 + 3 = 662) (jI_eq (by omega) (by omega) (by omega) (by omega)) (fun _ => ?_) (fun h => ?_)
  · refine zr_iload dL_law_664 (rfl : 664 + 2 = 666) rfl ?_
    refine zr_if_ne (tgt := 681) dL_law_666 (by decide) (rfl : 666 + 3 = 669) (jI_z (by omega) (by omega)) (fun _ => ?_) (fun hz => ?_)
    · refine zr_goto (tgt := 1863) dL_law_681 (by decide) ?_
      exact hk _ _ _ _ _ _ _ _ _ _ _ _ hR'
    · refine zr_aload_n dL_law_669 (rfl : 669 + 1 = 670) rfl ?_
      refine zr_iconst dL_law_670 (rfl : 670 + 1 = 671) ?_
      refine zr_laldR dL_law_671 (rfl : 671 + 1 = 672) lc_171 lc_in ?_
      rw [show f' (jI 0).toNatClampNeg = (jI v).toInt64 from hf hz]
      refine zr_iload dL_law_672 (rfl : 672 + 2 = 674) rfl ?_
      refine zr_i2l dL_law_674 (rfl : 674 + 1 = 675) ?_
      refine zr_lcmp dL_law_675 (rfl : 675 + 1 = 676) ?_
      rw [lc_cmp]
      refine zr_if_eq (tgt := 681) dL_law_676 (by decide) (rfl : 676 + 3 = 679) (jI_z (by decide) (by decide)) (fun _ => ?_) (fun h => absurd rfl h)
      refine zr_goto (tgt := 1863) dL_law_681 (by decide) ?_
      exact hk _ _ _ _ _ _ _ _ _ _ _ _ hR'
  · exact absurd rfl h
theorem case_end (hscr : zOld Γ 0 L xs) (hL : L ≤ 2048) (hi : 0 ≤ i ∧ i + 4 ≤ L) (hk : zHead Γ (d + 9) n kc ks 1863 i Q) : zHead Γ (d + 9) n (kc + 1) (ks + 6) 684 i Q := by
  intro g B σ τ S ik th f o5 o6 o7 o8 hR
  have ok := hR.1
  have lk := hR.2.1
  have ck := hR.2.2.2.1
  have hx := s_end (Γ := Γ) (d := d + 3) (σ := σ) (τ := τ) (u := mw S σ.sc ik th σ.T σ.L (zw0 f)) (B := B) ck ok
  have hm := p_end (Γ := Γ) (d := d) (th := th) (w := bk 6 (jend B) (cr (jsv σ B) τ (zw0 f))) hR
  rw [← lc_comm] at hm
  refine zRun.less (Nat.le_add_right kc 1) (Nat.le_add_right ks 6) ?_
  refine zr_aload_n dL_law_684 (rfl : 684 + 1 = 685) rfl ?_
  refine zr_fnV dL_law_685 (rfl : 685 + 3 = 688) l_L_130 hx lc_5 rfl rfl rfl (Nat.le_of_ble_eq_true rfl) ?_
  refine zr_aload_n dL_law_688 (rfl : 688 + 1 = 689) rfl ?_
  refine zr_feV dL_law_689 (rfl : 689 + 3 = 692) l_L_133 hm lc_167 rfl rfl rfl (Nat.le_of_ble_eq_true rfl) ?_
  rintro _ _ ⟨rfl, S', ik', hR', rfl⟩
  rw [← lc_comm]
  refine zr_icmp_eq (P := True) (tgt := 1863) dL_law_692 (by decide) (rfl : 692 + 3 = 695) ⟨fun _ => trivial, fun _ => rfl⟩ (fun _ => ?_) (fun h => absurd trivial h)
  exact hk _ _ _ _ _ _ _ _ _ _ _ _ hR'
theorem case_append (hscr : zOld Γ 0 L xs) (hL : L ≤ 2048) (hi : 0 ≤ i ∧ i + 4 ≤ L) (hk : zHead Γ (d + 9) n kc ks 1863 i Q) : zHead Γ (d + 9) n (kc + 1) (ks + 6) 697 i Q := by
  intro g B σ τ S ik th f o5 o6 o7 o8 hR
  obtain ⟨k, v, B', σ', τ', f', hk0, hf, hLw, hMw⟩ := out_append (Γ := Γ) (d := d) (τ := τ) (th := th) (f := f) hR (jsc' xs (i + 1)) (jsc_r xs _)
  refine zr_aload_n dL_law_697 (rfl : 697 + 1 = 698) rfl ?_
  refine zr_aload_n dL_law_698 (rfl : 698 + 1 = 699) rfl ?_
  refine zr_iload dL_law_699 (rfl : 699 + 2 = 701) rfl ?_
  refine zr_iconst dL_law_701 (rfl : 701 + 1 = 702) ?_
  refine zr_iadd dL_law_702 (rfl : 702 + 1 = 703) (by first | exact jI_add _ _ | rfl) ?_
  refine zr_scr dL_law_703 (rfl : 703 + 1 = 704) hscr hL (by omega) (by omega) ?_
  refine zr_aload_n dL_law_704 (rfl : 704 + 1 = 705) rfl ?_
  refine zr_callH dL_law_705 (rfl : 705 + 3 = 708) l_L_134 (hLw n g) rfl rfl (Nat.le_of_ble_eq_true rfl) (by omega) (by omega) ?_ (fun _ _ _ _ q => q.elim)
  rintro r n1 g1 w1 ⟨rfl, rfl, rfl⟩
  rw [Nat.add_sub_cancel, Nat.add_sub_cancel]
  refine zr_istore (lv' := [_, _, _, _, _, _, _, _, _]) dL_law_708 (rfl : 708 + 2 = 710) (Nat.le_of_ble_eq_true rfl) rfl ?_
  refine zr_aload_n dL_law_710 (rfl : 710 + 1 = 711) rfl ?_
  refine zr_aload_n dL_law_711 (rfl : 711 + 1 = 712) rfl ?_
  refine zr_iload dL_law_712 (rfl : 712 + 2 = 714) rfl ?_
  refine zr_iconst dL_law_714 (rfl : 714 + 1 = 715) ?_
  refine zr_iadd dL_law_715 (rfl : 715 + 1 = 716) (by first | exact jI_add _ _ | rfl) ?_
  refine zr_scr dL_law_716 (rfl : 716 + 1 = 717) hscr hL (by omega) (by omega) ?_
  refine zr_feV dL_law_717 (rfl : 717 + 3 = 720) l_L_136 hMw lc_167 rfl rfl rfl (Nat.le_of_ble_eq_true rfl) ?_
  rintro _ _ ⟨rfl, S', ik', hR', rfl⟩
  refine zr_istore (lv' := [_, _, _, _, _, _, _, _, _]) dL_law_720 (rfl : 720 + 2 = 722) (Nat.le_of_ble_eq_true rfl) rfl ?_
  refine zr_aload_n dL_law_722 (rfl : 722 + 1 = 723) rfl ?_
  refine zr_fnV dL_law_723 (rfl : 723 + 3 = 726) l_L_104 l_thrown lc_167 rfl rfl rfl (Nat.le_of_ble_eq_true rfl) ?_
  refine zr_iload dL_law_726 (rfl : 726 + 2 = 728) rfl ?_
  refine zr_icmp_eq (tgt := 733) dL_law_728 (by decide) (rfl : 728 + 3 = 731) (jI_eq (by omega) (by omega) (by omega) (by omega)) (fun _ => ?_) (fun h => ?_)
  · refine zr_iload dL_law_733 (rfl : 733 + 2 = 735) rfl ?_
    refine zr_if_ne (tgt := 750) dL_law_735 (by decide) (rfl : 735 + 3 = 738) (jI_z (by omega) (by omega)) (fun _ => ?_) (fun hz => ?_)
    · refine zr_goto (tgt := 1863) dL_law_750 (by decide) ?_
      exact hk _ _ _ _ _ _ _ _ _ _ _ _ hR'
    · refine zr_aload_n dL_law_738 (rfl : 738 + 1 = 739) rfl ?_
      refine zr_iconst dL_law_739 (rfl : 739 + 1 = 740) ?_
      refine zr_laldR dL_law_740 (rfl : 740 + 1 = 741) lc_171 lc_in ?_
      rw [show f' (jI 0).toNatClampNeg = (jI v).toInt64 from hf hz]
      refine zr_iload dL_law_741 (rfl : 741 + 2 = 743) rfl ?_
      refine zr_i2l dL_law_743 (rfl : 743 + 1 = 744) ?_
      refine zr_lcmp dL_law_744 (rfl : 744 + 1 = 745) ?_
      rw [lc_cmp]
      refine zr_if_eq (tgt := 750) dL_law_745 (by decide) (rfl : 745 + 3 = 748) (jI_z (by decide) (by decide)) (fun _ => ?_) (fun h => absurd rfl h)
      refine zr_goto (tgt := 1863) dL_law_750 (by decide) ?_
      exact hk _ _ _ _ _ _ _ _ _ _ _ _ hR'
  · exact absurd rfl h
theorem case_clearBuffer (hscr : zOld Γ 0 L xs) (hL : L ≤ 2048) (hi : 0 ≤ i ∧ i + 4 ≤ L) (hk : zHead Γ (d + 9) n kc ks 1863 i Q) : zHead Γ (d + 9) n (kc + 1) (ks + 6) 753 i Q := by
  intro g B σ τ S ik th f o5 o6 o7 o8 hR
  have ok := hR.1
  have lk := hR.2.1
  have ck := hR.2.2.2.1
  have hx := s_clearBuffer (Γ := Γ) (d := d + 3) (σ := σ) (τ := τ) (u := mw S σ.sc ik th σ.T σ.L (zw0 f)) (B := B)
  have hm := p_clearBuffer (Γ := Γ) (d := d) (th := th) (w := bk 6 (B) (cr (zC.sL σ 0) τ (zw0 f))) hR
  rw [← lc_comm] at hm
  refine zRun.less (Nat.le_add_right kc 1) (Nat.le_add_right ks 6) ?_
  refine zr_aload_n dL_law_753 (rfl : 753 + 1 = 754) rfl ?_
  refine zr_fnV dL_law_754 (rfl : 754 + 3 = 757) l_L_137 hx lc_5 rfl rfl rfl (Nat.le_of_ble_eq_true rfl) ?_
  refine zr_aload_n dL_law_757 (rfl : 757 + 1 = 758) rfl ?_
  refine zr_feV dL_law_758 (rfl : 758 + 3 = 761) l_L_140 hm lc_167 rfl rfl rfl (Nat.le_of_ble_eq_true rfl) ?_
  rintro _ _ ⟨rfl, S', ik', hR', rfl⟩
  rw [← lc_comm]
  refine zr_icmp_eq (P := True) (tgt := 1863) dL_law_761 (by decide) (rfl : 761 + 3 = 764) ⟨fun _ => trivial, fun _ => rfl⟩ (fun _ => ?_) (fun h => absurd trivial h)
  exact hk _ _ _ _ _ _ _ _ _ _ _ _ hR'
theorem case_firstError (hscr : zOld Γ 0 L xs) (hL : L ≤ 2048) (hi : 0 ≤ i ∧ i + 4 ≤ L) (hk : zHead Γ (d + 9) n kc ks 1863 i Q) : zHead Γ (d + 9) n (kc + 1) (ks + 6) 766 i Q := by
  intro g B σ τ S ik th f o5 o6 o7 o8 hR
  have ok := hR.1
  have lk := hR.2.1
  have ck := hR.2.2.2.1
  have hx := s_firstError (Γ := Γ) (d := d + 3) (σ := σ) (τ := τ) (u := mw S σ.sc ik th σ.T σ.L (zw0 f)) (B := B) ck
  have hm := p_firstError (Γ := Γ) (d := d) (th := th) (w := bk 6 (B) (cr (σ) τ (zw0 f))) hR
  rw [← lc_comm] at hm
  refine zRun.less (Nat.le_add_right kc 1) (Nat.le_add_right ks 6) ?_
  refine zr_aload_n dL_law_766 (rfl : 766 + 1 = 767) rfl ?_
  refine zr_fnV dL_law_767 (rfl : 767 + 3 = 770) l_L_141 hx lc_5 rfl rfl rfl (Nat.le_of_ble_eq_true rfl) ?_
  refine zr_aload_n dL_law_770 (rfl : 770 + 1 = 771) rfl ?_
  refine zr_feV dL_law_771 (rfl : 771 + 3 = 774) l_L_144 hm lc_167 rfl rfl rfl (Nat.le_of_ble_eq_true rfl) ?_
  rintro _ _ ⟨rfl, S', ik', hR', rfl⟩
  rw [← lc_comm]
  refine zr_icmp_eq (P := True) (tgt := 1863) dL_law_774 (by decide) (rfl : 774 + 3 = 777) ⟨fun _ => trivial, fun _ => rfl⟩ (fun _ => ?_) (fun h => absurd trivial h)
  exact hk _ _ _ _ _ _ _ _ _ _ _ _ hR'
theorem case_run (hscr : zOld Γ 0 L xs) (hL : L ≤ 2048) (hi : 0 ≤ i ∧ i + 4 ≤ L) (hk : zHead Γ (d + 9) n kc ks 1863 i Q) : zHead Γ (d + 9) n (kc + 1) (ks + 6) 779 i Q := by
  intro g B σ τ S ik th f o5 o6 o7 o8 hR
  obtain ⟨k, v, B', σ', τ', f', hk0, hf, hLw, hMw⟩ := out_run (Γ := Γ) (d := d) (τ := τ) (th := th) (f := f) hR  
  refine zr_aload_n dL_law_779 (rfl : 779 + 1 = 780) rfl ?_
  refine zr_aload_n dL_law_780 (rfl : 780 + 1 = 781) rfl ?_
  refine zr_callH dL_law_781 (rfl : 781 + 3 = 784) l_L_145 (hLw n g) rfl rfl (Nat.le_of_ble_eq_true rfl) (by omega) (by omega) ?_ (fun _ _ _ _ q => q.elim)
  rintro r n1 g1 w1 ⟨rfl, rfl, rfl⟩
  rw [Nat.add_sub_cancel, Nat.add_sub_cancel]
  refine zr_istore (lv' := [_, _, _, _, _, _, _, _, _]) dL_law_784 (rfl : 784 + 2 = 786) (Nat.le_of_ble_eq_true rfl) rfl ?_
  refine zr_aload_n dL_law_786 (rfl : 786 + 1 = 787) rfl ?_
  refine zr_feV dL_law_787 (rfl : 787 + 3 = 790) l_L_148 hMw lc_167 rfl rfl rfl (Nat.le_of_ble_eq_true rfl) ?_
  rintro _ _ ⟨rfl, S', ik', hR', rfl⟩
  refine zr_istore (lv' := [_, _, _, _, _, _, _, _, _]) dL_law_790 (rfl : 790 + 2 = 792) (Nat.le_of_ble_eq_true rfl) rfl ?_
  refine zr_aload_n dL_law_792 (rfl : 792 + 1 = 793) rfl ?_
  refine zr_fnV dL_law_793 (rfl : 793 + 3 = 796) l_L_104 l_thrown lc_167 rfl rfl rfl (Nat.le_of_ble_eq_true rfl) ?_
  refine zr_iload dL_law_796 (rfl : 796 + 2 = 798) rfl ?_
  refine zr_icmp_eq (tgt := 803) dL_law_798 (by decide) (rfl : 798 + 3 = 801) (jI_eq (by omega) (by omega) (by omega) (by omega)) (fun _ => ?_) (fun h => ?_)
  · refine zr_iload dL_law_803 (rfl : 803 + 2 = 805) rfl ?_
    refine zr_if_ne (tgt := 820) dL_law_805 (by decide) (rfl : 805 + 3 = 808) (jI_z (by omega) (by omega)) (fun _ => ?_) (fun hz => ?_)
    · refine zr_goto (tgt := 1863) dL_law_820 (by decide) ?_
      exact hk _ _ _ _ _ _ _ _ _ _ _ _ hR'
    · refine zr_aload_n dL_law_808 (rfl : 808 + 1 = 809) rfl ?_
      refine zr_iconst dL_law_809 (rfl : 809 + 1 = 810) ?_
      refine zr_laldR dL_law_810 (rfl : 810 + 1 = 811) lc_171 lc_in ?_
      rw [show f' (jI 0).toNatClampNeg = (jI v).toInt64 from hf hz]
      refine zr_iload dL_law_811 (rfl : 811 + 2 = 813) rfl ?_
      refine zr_i2l dL_law_813 (rfl : 813 + 1 = 814) ?_
      refine zr_lcmp dL_law_814 (rfl : 814 + 1 = 815) ?_
      rw [lc_cmp]
      refine zr_if_eq (tgt := 820) dL_law_815 (by decide) (rfl : 815 + 3 = 818) (jI_z (by decide) (by decide)) (fun _ => ?_) (fun h => absurd rfl h)
      refine zr_goto (tgt := 1863) dL_law_820 (by decide) ?_
      exact hk _ _ _ _ _ _ _ _ _ _ _ _ hR'
  · exact absurd rfl h
theorem case_keep (hscr : zOld Γ 0 L xs) (hL : L ≤ 2048) (hi : 0 ≤ i ∧ i + 4 ≤ L) (hk : zHead Γ (d + 9) n kc ks 1863 i Q) : zHead Γ (d + 9) n (kc + 1) (ks + 6) 823 i Q := by
  intro g B σ τ S ik th f o5 o6 o7 o8 hR
  obtain ⟨k, v, B', σ', τ', f', hk0, hf, hLw, hMw⟩ := out_keep (Γ := Γ) (d := d) (τ := τ) (th := th) (f := f) hR (jsc' xs (i + 1)) (jsc_r xs _)
  refine zr_aload_n dL_law_823 (rfl : 823 + 1 = 824) rfl ?_
  refine zr_aload_n dL_law_824 (rfl : 824 + 1 = 825) rfl ?_
  refine zr_iload dL_law_825 (rfl : 825 + 2 = 827) rfl ?_
  refine zr_iconst dL_law_827 (rfl : 827 + 1 = 828) ?_
  refine zr_iadd dL_law_828 (rfl : 828 + 1 = 829) (by first | exact jI_add _ _ | rfl) ?_
  refine zr_scr dL_law_829 (rfl : 829 + 1 = 830) hscr hL (by omega) (by omega) ?_
  refine zr_aload_n dL_law_830 (rfl : 830 + 1 = 831) rfl ?_
  refine zr_callH dL_law_831 (rfl : 831 + 3 = 834) l_L_149 (hLw n g) rfl rfl (Nat.le_of_ble_eq_true rfl) (by omega) (by omega) ?_ (fun _ _ _ _ q => q.elim)
  rintro r n1 g1 w1 ⟨rfl, rfl, rfl⟩
  rw [Nat.add_sub_cancel, Nat.add_sub_cancel]
  refine zr_istore (lv' := [_, _, _, _, _, _, _, _, _]) dL_law_834 (rfl : 834 + 2 = 836) (Nat.le_of_ble_eq_true rfl) rfl ?_
  refine zr_aload_n dL_law_836 (rfl : 836 + 1 = 837) rfl ?_
  refine zr_aload_n dL_law_837 (rfl : 837 + 1 = 838) rfl ?_
  refine zr_iload dL_law_838 (rfl : 838 + 2 = 840) rfl ?_
  refine zr_iconst dL_law_840 (rfl : 840 + 1 = 841) ?_
  refine zr_iadd dL_law_841 (rfl : 841 + 1 = 842) (by first | exact jI_add _ _ | rfl) ?_
  refine zr_scr dL_law_842 (rfl : 842 + 1 = 843) hscr hL (by omega) (by omega) ?_
  refine zr_feV dL_law_843 (rfl : 843 + 3 = 846) l_L_151 hMw lc_167 rfl rfl rfl (Nat.le_of_ble_eq_true rfl) ?_
  rintro _ _ ⟨rfl, S', ik', hR', rfl⟩
  refine zr_istore (lv' := [_, _, _, _, _, _, _, _, _]) dL_law_846 (rfl : 846 + 2 = 848) (Nat.le_of_ble_eq_true rfl) rfl ?_
  refine zr_aload_n dL_law_848 (rfl : 848 + 1 = 849) rfl ?_
  refine zr_fnV dL_law_849 (rfl : 849 + 3 = 852) l_L_104 l_thrown lc_167 rfl rfl rfl (Nat.le_of_ble_eq_true rfl) ?_
  refine zr_iload dL_law_852 (rfl : 852 + 2 = 854) rfl ?_
  refine zr_icmp_eq (tgt := 859) dL_law_854 (by decide) (rfl : 854 + 3 = 857) (jI_eq (by omega) (by omega) (by omega) (by omega)) (fun _ => ?_) (fun h => ?_)
  · refine zr_iload dL_law_859 (rfl : 859 + 2 = 861) rfl ?_
    refine zr_if_ne (tgt := 876) dL_law_861 (by decide) (rfl : 861 + 3 = 864) (jI_z (by omega) (by omega)) (fun _ => ?_) (fun hz => ?_)
    · refine zr_goto (tgt := 1863) dL_law_876 (by decide) ?_
      exact hk _ _ _ _ _ _ _ _ _ _ _ _ hR'
    · refine zr_aload_n dL_law_864 (rfl : 864 + 1 = 865) rfl ?_
      refine zr_iconst dL_law_865 (rfl : 865 + 1 = 866) ?_
      refine zr_laldR dL_law_866 (rfl : 866 + 1 = 867) lc_171 lc_in ?_
      rw [show f' (jI 0).toNatClampNeg = (jI v).toInt64 from hf hz]
      refine zr_iload dL_law_867 (rfl : 867 + 2 = 869) rfl ?_
      refine zr_i2l dL_law_869 (rfl : 869 + 1 = 870) ?_
      refine zr_lcmp dL_law_870 (rfl : 870 + 1 = 871) ?_
      rw [lc_cmp]
      refine zr_if_eq (tgt := 876) dL_law_871 (by decide) (rfl : 871 + 3 = 874) (jI_z (by decide) (by decide)) (fun _ => ?_) (fun h => absurd rfl h)
      refine zr_goto (tgt := 1863) dL_law_876 (by decide) ?_
      exact hk _ _ _ _ _ _ _ _ _ _ _ _ hR'
  · exact absurd rfl h
theorem case_goBack (hscr : zOld Γ 0 L xs) (hL : L ≤ 2048) (hi : 0 ≤ i ∧ i + 4 ≤ L) (hk : zHead Γ (d + 9) n kc ks 1863 i Q) : zHead Γ (d + 9) n (kc + 1) (ks + 6) 879 i Q := by
  intro g B σ τ S ik th f o5 o6 o7 o8 hR
  obtain ⟨k, v, B', σ', τ', f', hk0, hf, hLw, hMw⟩ := out_goBack (Γ := Γ) (d := d) (τ := τ) (th := th) (f := f) hR (jsc' xs (i + 1)) (jsc_r xs _)
  refine zr_aload_n dL_law_879 (rfl : 879 + 1 = 880) rfl ?_
  refine zr_aload_n dL_law_880 (rfl : 880 + 1 = 881) rfl ?_
  refine zr_iload dL_law_881 (rfl : 881 + 2 = 883) rfl ?_
  refine zr_iconst dL_law_883 (rfl : 883 + 1 = 884) ?_
  refine zr_iadd dL_law_884 (rfl : 884 + 1 = 885) (by first | exact jI_add _ _ | rfl) ?_
  refine zr_scr dL_law_885 (rfl : 885 + 1 = 886) hscr hL (by omega) (by omega) ?_
  refine zr_aload_n dL_law_886 (rfl : 886 + 1 = 887) rfl ?_
  refine zr_callH dL_law_887 (rfl : 887 + 3 = 890) l_L_152 (hLw n g) rfl rfl (Nat.le_of_ble_eq_true rfl) (by omega) (by omega) ?_ (fun _ _ _ _ q => q.elim)
  rintro r n1 g1 w1 ⟨rfl, rfl, rfl⟩
  rw [Nat.add_sub_cancel, Nat.add_sub_cancel]
  refine zr_istore (lv' := [_, _, _, _, _, _, _, _, _]) dL_law_890 (rfl : 890 + 2 = 892) (Nat.le_of_ble_eq_true rfl) rfl ?_
  refine zr_aload_n dL_law_892 (rfl : 892 + 1 = 893) rfl ?_
  refine zr_aload_n dL_law_893 (rfl : 893 + 1 = 894) rfl ?_
  refine zr_iload dL_law_894 (rfl : 894 + 2 = 896) rfl ?_
  refine zr_iconst dL_law_896 (rfl : 896 + 1 = 897) ?_
  refine zr_iadd dL_law_897 (rfl : 897 + 1 = 898) (by first | exact jI_add _ _ | rfl) ?_
  refine zr_scr dL_law_898 (rfl : 898 + 1 = 899) hscr hL (by omega) (by omega) ?_
  refine zr_feV dL_law_899 (rfl : 899 + 3 = 902) l_L_154 hMw lc_167 rfl rfl rfl (Nat.le_of_ble_eq_true rfl) ?_
  rintro _ _ ⟨rfl, S', ik', hR', rfl⟩
  refine zr_istore (lv' := [_, _, _, _, _, _, _, _, _]) dL_law_902 (rfl : 902 + 2 = 904) (Nat.le_of_ble_eq_true rfl) rfl ?_
  refine zr_aload_n dL_law_904 (rfl : 904 + 1 = 905) rfl ?_
  refine zr_fnV dL_law_905 (rfl : 905 + 3 = 908) l_L_104 l_thrown lc_167 rfl rfl rfl (Nat.le_of_ble_eq_true rfl) ?_
  refine zr_iload dL_law_908 (rfl : 908 + 2 = 910) rfl ?_
  refine zr_icmp_eq (tgt := 915) dL_law_910 (by decide) (rfl : 910 + 3 = 913) (jI_eq (by omega) (by omega) (by omega) (by omega)) (fun _ => ?_) (fun h => ?_)
  · refine zr_iload dL_law_915 (rfl : 915 + 2 = 917) rfl ?_
    refine zr_if_ne (tgt := 932) dL_law_917 (by decide) (rfl : 917 + 3 = 920) (jI_z (by omega) (by omega)) (fun _ => ?_) (fun hz => ?_)
    · refine zr_goto (tgt := 1863) dL_law_932 (by decide) ?_
      exact hk _ _ _ _ _ _ _ _ _ _ _ _ hR'
    · refine zr_aload_n dL_law_920 (rfl : 920 + 1 = 921) rfl ?_
      refine zr_iconst dL_law_921 (rfl : 921 + 1 = 922) ?_
      refine zr_laldR dL_law_922 (rfl : 922 + 1 = 923) lc_171 lc_in ?_
      rw [show f' (jI 0).toNatClampNeg = (jI v).toInt64 from hf hz]
      refine zr_iload dL_law_923 (rfl : 923 + 2 = 925) rfl ?_
      refine zr_i2l dL_law_925 (rfl : 925 + 1 = 926) ?_
      refine zr_lcmp dL_law_926 (rfl : 926 + 1 = 927) ?_
      rw [lc_cmp]
      refine zr_if_eq (tgt := 932) dL_law_927 (by decide) (rfl : 927 + 3 = 930) (jI_z (by decide) (by decide)) (fun _ => ?_) (fun h => absurd rfl h)
      refine zr_goto (tgt := 1863) dL_law_932 (by decide) ?_
      exact hk _ _ _ _ _ _ _ _ _ _ _ _ hR'
  · exact absurd rfl h
theorem case_undo (hscr : zOld Γ 0 L xs) (hL : L ≤ 2048) (hi : 0 ≤ i ∧ i + 4 ≤ L) (hk : zHead Γ (d + 9) n kc ks 1863 i Q) : zHead Γ (d + 9) n (kc + 1) (ks + 6) 935 i Q := by
  intro g B σ τ S ik th f o5 o6 o7 o8 hR
  obtain ⟨k, v, B', σ', τ', f', hk0, hf, hLw, hMw⟩ := out_undo (Γ := Γ) (d := d) (τ := τ) (th := th) (f := f) hR  
  refine zr_aload_n dL_law_935 (rfl : 935 + 1 = 936) rfl ?_
  refine zr_aload_n dL_law_936 (rfl : 936 + 1 = 937) rfl ?_
  refine zr_callH dL_law_937 (rfl : 937 + 3 = 940) l_L_155 (hLw n g) rfl rfl (Nat.le_of_ble_eq_true rfl) (by omega) (by omega) ?_ (fun _ _ _ _ q => q.elim)
  rintro r n1 g1 w1 ⟨rfl, rfl, rfl⟩
  rw [Nat.add_sub_cancel, Nat.add_sub_cancel]
  refine zr_istore (lv' := [_, _, _, _, _, _, _, _, _]) dL_law_940 (rfl : 940 + 2 = 942) (Nat.le_of_ble_eq_true rfl) rfl ?_
  refine zr_aload_n dL_law_942 (rfl : 942 + 1 = 943) rfl ?_
  refine zr_feV dL_law_943 (rfl : 943 + 3 = 946) l_L_157 hMw lc_167 rfl rfl rfl (Nat.le_of_ble_eq_true rfl) ?_
  rintro _ _ ⟨rfl, S', ik', hR', rfl⟩
  refine zr_istore (lv' := [_, _, _, _, _, _, _, _, _]) dL_law_946 (rfl : 946 + 2 = 948) (Nat.le_of_ble_eq_true rfl) rfl ?_
  refine zr_aload_n dL_law_948 (rfl : 948 + 1 = 949) rfl ?_
  refine zr_fnV dL_law_949 (rfl : 949 + 3 = 952) l_L_104 l_thrown lc_167 rfl rfl rfl (Nat.le_of_ble_eq_true rfl) ?_
  refine zr_iload dL_law_952 (rfl : 952 + 2 = 954) rfl ?_
  refine zr_icmp_eq (tgt := 959) dL_law_954 (by decide) (rfl : 954 + 3 = 957) (jI_eq (by omega) (by omega) (by omega) (by omega)) (fun _ => ?_) (fun h => ?_)
  · refine zr_iload dL_law_959 (rfl : 959 + 2 = 961) rfl ?_
    refine zr_if_ne (tgt := 976) dL_law_961 (by decide) (rfl : 961 + 3 = 964) (jI_z (by omega) (by omega)) (fun _ => ?_) (fun hz => ?_)
    · refine zr_goto (tgt := 1863) dL_law_976 (by decide) ?_
      exact hk _ _ _ _ _ _ _ _ _ _ _ _ hR'
    · refine zr_aload_n dL_law_964 (rfl : 964 + 1 = 965) rfl ?_
      refine zr_iconst dL_law_965 (rfl : 965 + 1 = 966) ?_
      refine zr_laldR dL_law_966 (rfl : 966 + 1 = 967) lc_171 lc_in ?_
      rw [show f' (jI 0).toNatClampNeg = (jI v).toInt64 from hf hz]
      refine zr_iload dL_law_967 (rfl : 967 + 2 = 969) rfl ?_
      refine zr_i2l dL_law_969 (rfl : 969 + 1 = 970) ?_
      refine zr_lcmp dL_law_970 (rfl : 970 + 1 = 971) ?_
      rw [lc_cmp]
      refine zr_if_eq (tgt := 976) dL_law_971 (by decide) (rfl : 971 + 3 = 974) (jI_z (by decide) (by decide)) (fun _ => ?_) (fun h => absurd rfl h)
      refine zr_goto (tgt := 1863) dL_law_976 (by decide) ?_
      exact hk _ _ _ _ _ _ _ _ _ _ _ _ hR'
  · exact absurd rfl h
theorem case_at (hscr : zOld Γ 0 L xs) (hL : L ≤ 2048) (hi : 0 ≤ i ∧ i + 4 ≤ L) (hk : zHead Γ (d + 9) n kc ks 1863 i Q) : zHead Γ (d + 9) n (kc + 1) (ks + 6) 979 i Q := by
  intro g B σ τ S ik th f o5 o6 o7 o8 hR
  obtain ⟨k, v, B', σ', τ', f', hk0, hf, hLw, hMw⟩ := out_at (Γ := Γ) (d := d) (τ := τ) (th := th) (f := f) hR (jsc' xs (i + 1)) (jsc' xs (i + 2)) (jsc' xs (i + 3)) (jsc_r xs _) (jsc_r xs _) (jsc_r xs _)
  refine zr_aload_n dL_law_979 (rfl : 979 + 1 = 980) rfl ?_
  refine zr_aload_n dL_law_980 (rfl : 980 + 1 = 981) rfl ?_
  refine zr_iload dL_law_981 (rfl : 981 + 2 = 983) rfl ?_
  refine zr_iconst dL_law_983 (rfl : 983 + 1 = 984) ?_
  refine zr_iadd dL_law_984 (rfl : 984 + 1 = 985) (by first | exact jI_add _ _ | rfl) ?_
  refine zr_scr dL_law_985 (rfl : 985 + 1 = 986) hscr hL (by omega) (by omega) ?_
  refine zr_aload_n dL_law_986 (rfl : 986 + 1 = 987) rfl ?_
  refine zr_iload dL_law_987 (rfl : 987 + 2 = 989) rfl ?_
  refine zr_iconst dL_law_989 (rfl : 989 + 1 = 990) ?_
  refine zr_iadd dL_law_990 (rfl : 990 + 1 = 991) (by first | exact jI_add _ _ | rfl) ?_
  refine zr_scr dL_law_991 (rfl : 991 + 1 = 992) hscr hL (by omega) (by omega) ?_
  refine zr_aload_n dL_law_992 (rfl : 992 + 1 = 993) rfl ?_
  refine zr_iload dL_law_993 (rfl : 993 + 2 = 995) rfl ?_
  refine zr_iconst dL_law_995 (rfl : 995 + 1 = 996) ?_
  refine zr_iadd dL_law_996 (rfl : 996 + 1 = 997) (by first | exact jI_add _ _ | rfl) ?_
  refine zr_scr dL_law_997 (rfl : 997 + 1 = 998) hscr hL (by omega) (by omega) ?_
  refine zr_aload_n dL_law_998 (rfl : 998 + 1 = 999) rfl ?_
  refine zr_callH dL_law_999 (rfl : 999 + 3 = 1002) l_L_158 (hLw n g) rfl rfl (Nat.le_of_ble_eq_true rfl) (by omega) (by omega) ?_ (fun _ _ _ _ q => q.elim)
  rintro r n1 g1 w1 ⟨rfl, rfl, rfl⟩
  rw [Nat.add_sub_cancel, Nat.add_sub_cancel]
  refine zr_istore (lv' := [_, _, _, _, _, _, _, _, _]) dL_law_1002 (rfl : 1002 + 2 = 1004) (Nat.le_of_ble_eq_true rfl) rfl ?_
  refine zr_aload_n dL_law_1004 (rfl : 1004 + 1 = 1005) rfl ?_
  refine zr_aload_n dL_law_1005 (rfl : 1005 + 1 = 1006) rfl ?_
  refine zr_iload dL_law_1006 (rfl : 1006 + 2 = 1008) rfl ?_
  refine zr_iconst dL_law_1008 (rfl : 1008 + 1 = 1009) ?_
  refine zr_iadd dL_law_1009 (rfl : 1009 + 1 = 1010) (by first | exact jI_add _ _ | rfl) ?_
  refine zr_scr dL_law_1010 (rfl : 1010 + 1 = 1011) hscr hL (by omega) (by omega) ?_
  refine zr_aload_n dL_law_1011 (rfl : 1011 + 1 = 1012) rfl ?_
  refine zr_iload dL_law_1012 (rfl : 1012 + 2 = 1014) rfl ?_
  refine zr_iconst dL_law_1014 (rfl : 1014 + 1 = 1015) ?_
  refine zr_iadd dL_law_1015 (rfl : 1015 + 1 = 1016) (by first | exact jI_add _ _ | rfl) ?_
  refine zr_scr dL_law_1016 (rfl : 1016 + 1 = 1017) hscr hL (by omega) (by omega) ?_
  refine zr_aload_n dL_law_1017 (rfl : 1017 + 1 = 1018) rfl ?_
  refine zr_iload dL_law_1018 (rfl : 1018 + 2 = 1020) rfl ?_
  refine zr_iconst dL_law_1020 (rfl : 1020 + 1 = 1021) ?_
  refine zr_iadd dL_law_1021 (rfl : 1021 + 1 = 1022) (by first | exact jI_add _ _ | rfl) ?_
  refine zr_scr dL_law_1022 (rfl : 1022 + 1 = 1023) hscr hL (by omega) (by omega) ?_
  refine zr_feV dL_law_1023 (rfl : 1023 + 3 = 1026) l_L_160 hMw lc_167 rfl rfl rfl (Nat.le_of_ble_eq_true rfl) ?_
  rintro _ _ ⟨rfl, S', ik', hR', rfl⟩
  refine zr_istore (lv' := [_, _, _, _, _, _, _, _, _]) dL_law_1026 (rfl : 1026 + 2 = 1028) (Nat.le_of_ble_eq_true rfl) rfl ?_
  refine zr_aload_n dL_law_1028 (rfl : 1028 + 1 = 1029) rfl ?_
  refine zr_fnV dL_law_1029 (rfl : 1029 + 3 = 1032) l_L_104 l_thrown lc_167 rfl rfl rfl (Nat.le_of_ble_eq_true rfl) ?_
  refine zr_iload dL_law_1032 (rfl : 1032 + 2 = 1034) rfl ?_
  refine zr_icmp_eq (tgt := 1039) dL_law_1034 (by decide) (rfl : 1034 + 3 = 1037) (jI_eq (by omega) (by omega) (by omega) (by omega)) (fun _ => ?_) (fun h => ?_)
  · refine zr_iload dL_law_1039 (rfl : 1039 + 2 = 1041) rfl ?_
    refine zr_if_ne (tgt := 1056) dL_law_1041 (by decide) (rfl : 1041 + 3 = 1044) (jI_z (by omega) (by omega)) (fun _ => ?_) (fun hz => ?_)
    · refine zr_goto (tgt := 1863) dL_law_1056 (by decide) ?_
      exact hk _ _ _ _ _ _ _ _ _ _ _ _ hR'
    · refine zr_aload_n dL_law_1044 (rfl : 1044 + 1 = 1045) rfl ?_
      refine zr_iconst dL_law_1045 (rfl : 1045 + 1 = 1046) ?_
      refine zr_laldR dL_law_1046 (rfl : 1046 + 1 = 1047) lc_171 lc_in ?_
      rw [show f' (jI 0).toNatClampNeg = (jI v).toInt64 from hf hz]
      refine zr_iload dL_law_1047 (rfl : 1047 + 2 = 1049) rfl ?_
      refine zr_i2l dL_law_1049 (rfl : 1049 + 1 = 1050) ?_
      refine zr_lcmp dL_law_1050 (rfl : 1050 + 1 = 1051) ?_
      rw [lc_cmp]
      refine zr_if_eq (tgt := 1056) dL_law_1051 (by decide) (rfl : 1051 + 3 = 1054) (jI_z (by decide) (by decide)) (fun _ => ?_) (fun h => absurd rfl h)
      refine zr_goto (tgt := 1863) dL_law_1056 (by decide) ?_
      exact hk _ _ _ _ _ _ _ _ _ _ _ _ hR'
  · exact absurd rfl h
theorem case_cardOf (hscr : zOld Γ 0 L xs) (hL : L ≤ 2048) (hi : 0 ≤ i ∧ i + 4 ≤ L) (hk : zHead Γ (d + 9) n kc ks 1863 i Q) : zHead Γ (d + 9) n (kc + 1) (ks + 6) 1059 i Q := by
  intro g B σ τ S ik th f o5 o6 o7 o8 hR
  obtain ⟨k, v, B', σ', τ', f', hk0, hf, hLw, hMw⟩ := out_cardOf (Γ := Γ) (d := d) (τ := τ) (th := th) (f := f) hR (jsc' xs (i + 1)) (jsc' xs (i + 2)) (jsc_r xs _) (jsc_r xs _)
  refine zr_aload_n dL_law_1059 (rfl : 1059 + 1 = 1060) rfl ?_
  refine zr_aload_n dL_law_1060 (rfl : 1060 + 1 = 1061) rfl ?_
  refine zr_iload dL_law_1061 (rfl : 1061 + 2 = 1063) rfl ?_
  refine zr_iconst dL_law_1063 (rfl : 1063 + 1 = 1064) ?_
  refine zr_iadd dL_law_1064 (rfl : 1064 + 1 = 1065) (by first | exact jI_add _ _ | rfl) ?_
  refine zr_scr dL_law_1065 (rfl : 1065 + 1 = 1066) hscr hL (by omega) (by omega) ?_
  refine zr_aload_n dL_law_1066 (rfl : 1066 + 1 = 1067) rfl ?_
  refine zr_iload dL_law_1067 (rfl : 1067 + 2 = 1069) rfl ?_
  refine zr_iconst dL_law_1069 (rfl : 1069 + 1 = 1070) ?_
  refine zr_iadd dL_law_1070 (rfl : 1070 + 1 = 1071) (by first | exact jI_add _ _ | rfl) ?_
  refine zr_scr dL_law_1071 (rfl : 1071 + 1 = 1072) hscr hL (by omega) (by omega) ?_
  refine zr_aload_n dL_law_1072 (rfl : 1072 + 1 = 1073) rfl ?_
  refine zr_callH dL_law_1073 (rfl : 1073 + 3 = 1076) l_L_161 (hLw n g) rfl rfl (Nat.le_of_ble_eq_true rfl) (by omega) (by omega) ?_ (fun _ _ _ _ q => q.elim)
  rintro r n1 g1 w1 ⟨rfl, rfl, rfl⟩
  rw [Nat.add_sub_cancel, Nat.add_sub_cancel]
  refine zr_istore (lv' := [_, _, _, _, _, _, _, _, _]) dL_law_1076 (rfl : 1076 + 2 = 1078) (Nat.le_of_ble_eq_true rfl) rfl ?_
  refine zr_aload_n dL_law_1078 (rfl : 1078 + 1 = 1079) rfl ?_
  refine zr_aload_n dL_law_1079 (rfl : 1079 + 1 = 1080) rfl ?_
  refine zr_iload dL_law_1080 (rfl : 1080 + 2 = 1082) rfl ?_
  refine zr_iconst dL_law_1082 (rfl : 1082 + 1 = 1083) ?_
  refine zr_iadd dL_law_1083 (rfl : 1083 + 1 = 1084) (by first | exact jI_add _ _ | rfl) ?_
  refine zr_scr dL_law_1084 (rfl : 1084 + 1 = 1085) hscr hL (by omega) (by omega) ?_
  refine zr_aload_n dL_law_1085 (rfl : 1085 + 1 = 1086) rfl ?_
  refine zr_iload dL_law_1086 (rfl : 1086 + 2 = 1088) rfl ?_
  refine zr_iconst dL_law_1088 (rfl : 1088 + 1 = 1089) ?_
  refine zr_iadd dL_law_1089 (rfl : 1089 + 1 = 1090) (by first | exact jI_add _ _ | rfl) ?_
  refine zr_scr dL_law_1090 (rfl : 1090 + 1 = 1091) hscr hL (by omega) (by omega) ?_
  refine zr_feV dL_law_1091 (rfl : 1091 + 3 = 1094) l_L_163 hMw lc_167 rfl rfl rfl (Nat.le_of_ble_eq_true rfl) ?_
  rintro _ _ ⟨rfl, S', ik', hR', rfl⟩
  refine zr_istore (lv' := [_, _, _, _, _, _, _, _, _]) dL_law_1094 (rfl : 1094 + 2 = 1096) (Nat.le_of_ble_eq_true rfl) rfl ?_
  refine zr_aload_n dL_law_1096 (rfl : 1096 + 1 = 1097) rfl ?_
  refine zr_fnV dL_law_1097 (rfl : 1097 + 3 = 1100) l_L_104 l_thrown lc_167 rfl rfl rfl (Nat.le_of_ble_eq_true rfl) ?_
  refine zr_iload dL_law_1100 (rfl : 1100 + 2 = 1102) rfl ?_
  refine zr_icmp_eq (tgt := 1107) dL_law_1102 (by decide) (rfl : 1102 + 3 = 1105) (jI_eq (by omega) (by omega) (by omega) (by omega)) (fun _ => ?_) (fun h => ?_)
  · refine zr_iload dL_law_1107 (rfl : 1107 + 2 = 1109) rfl ?_
    refine zr_if_ne (tgt := 1124) dL_law_1109 (by decide) (rfl : 1109 + 3 = 1112) (jI_z (by omega) (by omega)) (fun _ => ?_) (fun hz => ?_)
    · refine zr_goto (tgt := 1863) dL_law_1124 (by decide) ?_
      exact hk _ _ _ _ _ _ _ _ _ _ _ _ hR'
    · refine zr_aload_n dL_law_1112 (rfl : 1112 + 1 = 1113) rfl ?_
      refine zr_iconst dL_law_1113 (rfl : 1113 + 1 = 1114) ?_
      refine zr_laldR dL_law_1114 (rfl : 1114 + 1 = 1115) lc_171 lc_in ?_
      rw [show f' (jI 0).toNatClampNeg = (jI v).toInt64 from hf hz]
      refine zr_iload dL_law_1115 (rfl : 1115 + 2 = 1117) rfl ?_
      refine zr_i2l dL_law_1117 (rfl : 1117 + 1 = 1118) ?_
      refine zr_lcmp dL_law_1118 (rfl : 1118 + 1 = 1119) ?_
      rw [lc_cmp]
      refine zr_if_eq (tgt := 1124) dL_law_1119 (by decide) (rfl : 1119 + 3 = 1122) (jI_z (by decide) (by decide)) (fun _ => ?_) (fun h => absurd rfl h)
      refine zr_goto (tgt := 1863) dL_law_1124 (by decide) ?_
      exact hk _ _ _ _ _ _ _ _ _ _ _ _ hR'
  · exact absurd rfl h
theorem case_numberOf (hscr : zOld Γ 0 L xs) (hL : L ≤ 2048) (hi : 0 ≤ i ∧ i + 4 ≤ L) (hk : zHead Γ (d + 9) n kc ks 1863 i Q) : zHead Γ (d + 9) n (kc + 1) (ks + 6) 1127 i Q := by
  intro g B σ τ S ik th f o5 o6 o7 o8 hR
  obtain ⟨k, v, B', σ', τ', f', hk0, hf, hLw, hMw⟩ := out_numberOf (Γ := Γ) (d := d) (τ := τ) (th := th) (f := f) hR (jsc' xs (i + 1)) (jsc' xs (i + 2)) (jsc_r xs _) (jsc_r xs _)
  refine zr_aload_n dL_law_1127 (rfl : 1127 + 1 = 1128) rfl ?_
  refine zr_aload_n dL_law_1128 (rfl : 1128 + 1 = 1129) rfl ?_
  refine zr_iload dL_law_1129 (rfl : 1129 + 2 = 1131) rfl ?_
  refine zr_iconst dL_law_1131 (rfl : 1131 + 1 = 1132) ?_
  refine zr_iadd dL_law_1132 (rfl : 1132 + 1 = 1133) (by first | exact jI_add _ _ | rfl) ?_
  refine zr_scr dL_law_1133 (rfl : 1133 + 1 = 1134) hscr hL (by omega) (by omega) ?_
  refine zr_aload_n dL_law_1134 (rfl : 1134 + 1 = 1135) rfl ?_
  refine zr_iload dL_law_1135 (rfl : 1135 + 2 = 1137) rfl ?_
  refine zr_iconst dL_law_1137 (rfl : 1137 + 1 = 1138) ?_
  refine zr_iadd dL_law_1138 (rfl : 1138 + 1 = 1139) (by first | exact jI_add _ _ | rfl) ?_
  refine zr_scr dL_law_1139 (rfl : 1139 + 1 = 1140) hscr hL (by omega) (by omega) ?_
  refine zr_aload_n dL_law_1140 (rfl : 1140 + 1 = 1141) rfl ?_
  refine zr_callH dL_law_1141 (rfl : 1141 + 3 = 1144) l_L_164 (hLw n g) rfl rfl (Nat.le_of_ble_eq_true rfl) (by omega) (by omega) ?_ (fun _ _ _ _ q => q.elim)
  rintro r n1 g1 w1 ⟨rfl, rfl, rfl⟩
  rw [Nat.add_sub_cancel, Nat.add_sub_cancel]
  refine zr_istore (lv' := [_, _, _, _, _, _, _, _, _]) dL_law_1144 (rfl : 1144 + 2 = 1146) (Nat.le_of_ble_eq_true rfl) rfl ?_
  refine zr_aload_n dL_law_1146 (rfl : 1146 + 1 = 1147) rfl ?_
  refine zr_aload_n dL_law_1147 (rfl : 1147 + 1 = 1148) rfl ?_
  refine zr_iload dL_law_1148 (rfl : 1148 + 2 = 1150) rfl ?_
  refine zr_iconst dL_law_1150 (rfl : 1150 + 1 = 1151) ?_
  refine zr_iadd dL_law_1151 (rfl : 1151 + 1 = 1152) (by first | exact jI_add _ _ | rfl) ?_
  refine zr_scr dL_law_1152 (rfl : 1152 + 1 = 1153) hscr hL (by omega) (by omega) ?_
  refine zr_aload_n dL_law_1153 (rfl : 1153 + 1 = 1154) rfl ?_
  refine zr_iload dL_law_1154 (rfl : 1154 + 2 = 1156) rfl ?_
  refine zr_iconst dL_law_1156 (rfl : 1156 + 1 = 1157) ?_
  refine zr_iadd dL_law_1157 (rfl : 1157 + 1 = 1158) (by first | exact jI_add _ _ | rfl) ?_
  refine zr_scr dL_law_1158 (rfl : 1158 + 1 = 1159) hscr hL (by omega) (by omega) ?_
  refine zr_feV dL_law_1159 (rfl : 1159 + 3 = 1162) l_L_166 hMw lc_167 rfl rfl rfl (Nat.le_of_ble_eq_true rfl) ?_
  rintro _ _ ⟨rfl, S', ik', hR', rfl⟩
  refine zr_istore (lv' := [_, _, _, _, _, _, _, _, _]) dL_law_1162 (rfl : 1162 + 2 = 1164) (Nat.le_of_ble_eq_true rfl) rfl ?_
  refine zr_aload_n dL_law_1164 (rfl : 1164 + 1 = 1165) rfl ?_
  refine zr_fnV dL_law_1165 (rfl : 1165 + 3 = 1168) l_L_104 l_thrown lc_167 rfl rfl rfl (Nat.le_of_ble_eq_true rfl) ?_
  refine zr_iload dL_law_1168 (rfl : 1168 + 2 = 1170) rfl ?_
  refine zr_icmp_eq (tgt := 1175) dL_law_1170 (by decide) (rfl : 1170 + 3 = 1173) (jI_eq (by omega) (by omega) (by omega) (by omega)) (fun _ => ?_) (fun h => ?_)
  · refine zr_iload dL_law_1175 (rfl : 1175 + 2 = 1177) rfl ?_
    refine zr_if_ne (tgt := 1192) dL_law_1177 (by decide) (rfl : 1177 + 3 = 1180) (jI_z (by omega) (by omega)) (fun _ => ?_) (fun hz => ?_)
    · refine zr_goto (tgt := 1863) dL_law_1192 (by decide) ?_
      exact hk _ _ _ _ _ _ _ _ _ _ _ _ hR'
    · refine zr_aload_n dL_law_1180 (rfl : 1180 + 1 = 1181) rfl ?_
      refine zr_iconst dL_law_1181 (rfl : 1181 + 1 = 1182) ?_
      refine zr_laldR dL_law_1182 (rfl : 1182 + 1 = 1183) lc_171 lc_in ?_
      rw [show f' (jI 0).toNatClampNeg = (jI v).toInt64 from hf hz]
      refine zr_iload dL_law_1183 (rfl : 1183 + 2 = 1185) rfl ?_
      refine zr_i2l dL_law_1185 (rfl : 1185 + 1 = 1186) ?_
      refine zr_lcmp dL_law_1186 (rfl : 1186 + 1 = 1187) ?_
      rw [lc_cmp]
      refine zr_if_eq (tgt := 1192) dL_law_1187 (by decide) (rfl : 1187 + 3 = 1190) (jI_z (by decide) (by decide)) (fun _ => ?_) (fun h => absurd rfl h)
      refine zr_goto (tgt := 1863) dL_law_1192 (by decide) ?_
      exact hk _ _ _ _ _ _ _ _ _ _ _ _ hR'
  · exact absurd rfl h
theorem case_call (hscr : zOld Γ 0 L xs) (hL : L ≤ 2048) (hi : 0 ≤ i ∧ i + 4 ≤ L) (hk : zHead Γ (d + 9) n kc ks 1863 i Q) : zHead Γ (d + 9) n (kc + 1) (ks + 6) 1195 i Q := by
  intro g B σ τ S ik th f o5 o6 o7 o8 hR
  obtain ⟨k, v, B', σ', τ', f', hk0, hf, hLw, hMw⟩ := out_call (Γ := Γ) (d := d) (τ := τ) (th := th) (f := f) hR (jsc' xs (i + 1)) (jsc' xs (i + 2)) (jsc_r xs _) (jsc_r xs _)
  refine zr_aload_n dL_law_1195 (rfl : 1195 + 1 = 1196) rfl ?_
  refine zr_aload_n dL_law_1196 (rfl : 1196 + 1 = 1197) rfl ?_
  refine zr_iload dL_law_1197 (rfl : 1197 + 2 = 1199) rfl ?_
  refine zr_iconst dL_law_1199 (rfl : 1199 + 1 = 1200) ?_
  refine zr_iadd dL_law_1200 (rfl : 1200 + 1 = 1201) (by first | exact jI_add _ _ | rfl) ?_
  refine zr_scr dL_law_1201 (rfl : 1201 + 1 = 1202) hscr hL (by omega) (by omega) ?_
  refine zr_aload_n dL_law_1202 (rfl : 1202 + 1 = 1203) rfl ?_
  refine zr_iload dL_law_1203 (rfl : 1203 + 2 = 1205) rfl ?_
  refine zr_iconst dL_law_1205 (rfl : 1205 + 1 = 1206) ?_
  refine zr_iadd dL_law_1206 (rfl : 1206 + 1 = 1207) (by first | exact jI_add _ _ | rfl) ?_
  refine zr_scr dL_law_1207 (rfl : 1207 + 1 = 1208) hscr hL (by omega) (by omega) ?_
  refine zr_aload_n dL_law_1208 (rfl : 1208 + 1 = 1209) rfl ?_
  refine zr_callH dL_law_1209 (rfl : 1209 + 3 = 1212) l_L_167 (hLw n g) rfl rfl (Nat.le_of_ble_eq_true rfl) (by omega) (by omega) ?_ (fun _ _ _ _ q => q.elim)
  rintro r n1 g1 w1 ⟨rfl, rfl, rfl⟩
  rw [Nat.add_sub_cancel, Nat.add_sub_cancel]
  refine zr_istore (lv' := [_, _, _, _, _, _, _, _, _]) dL_law_1212 (rfl : 1212 + 2 = 1214) (Nat.le_of_ble_eq_true rfl) rfl ?_
  refine zr_aload_n dL_law_1214 (rfl : 1214 + 1 = 1215) rfl ?_
  refine zr_aload_n dL_law_1215 (rfl : 1215 + 1 = 1216) rfl ?_
  refine zr_iload dL_law_1216 (rfl : 1216 + 2 = 1218) rfl ?_
  refine zr_iconst dL_law_1218 (rfl : 1218 + 1 = 1219) ?_
  refine zr_iadd dL_law_1219 (rfl : 1219 + 1 = 1220) (by first | exact jI_add _ _ | rfl) ?_
  refine zr_scr dL_law_1220 (rfl : 1220 + 1 = 1221) hscr hL (by omega) (by omega) ?_
  refine zr_aload_n dL_law_1221 (rfl : 1221 + 1 = 1222) rfl ?_
  refine zr_iload dL_law_1222 (rfl : 1222 + 2 = 1224) rfl ?_
  refine zr_iconst dL_law_1224 (rfl : 1224 + 1 = 1225) ?_
  refine zr_iadd dL_law_1225 (rfl : 1225 + 1 = 1226) (by first | exact jI_add _ _ | rfl) ?_
  refine zr_scr dL_law_1226 (rfl : 1226 + 1 = 1227) hscr hL (by omega) (by omega) ?_
  refine zr_feV dL_law_1227 (rfl : 1227 + 3 = 1230) l_L_169 hMw lc_167 rfl rfl rfl (Nat.le_of_ble_eq_true rfl) ?_
  rintro _ _ ⟨rfl, S', ik', hR', rfl⟩
  refine zr_istore (lv' := [_, _, _, _, _, _, _, _, _]) dL_law_1230 (rfl : 1230 + 2 = 1232) (Nat.le_of_ble_eq_true rfl) rfl ?_
  refine zr_aload_n dL_law_1232 (rfl : 1232 + 1 = 1233) rfl ?_
  refine zr_fnV dL_law_1233 (rfl : 1233 + 3 = 1236) l_L_104 l_thrown lc_167 rfl rfl rfl (Nat.le_of_ble_eq_true rfl) ?_
  refine zr_iload dL_law_1236 (rfl : 1236 + 2 = 1238) rfl ?_
  refine zr_icmp_eq (tgt := 1243) dL_law_1238 (by decide) (rfl : 1238 + 3 = 1241) (jI_eq (by omega) (by omega) (by omega) (by omega)) (fun _ => ?_) (fun h => ?_)
  · refine zr_iload dL_law_1243 (rfl : 1243 + 2 = 1245) rfl ?_
    refine zr_if_ne (tgt := 1260) dL_law_1245 (by decide) (rfl : 1245 + 3 = 1248) (jI_z (by omega) (by omega)) (fun _ => ?_) (fun hz => ?_)
    · refine zr_goto (tgt := 1863) dL_law_1260 (by decide) ?_
      exact hk _ _ _ _ _ _ _ _ _ _ _ _ hR'
    · refine zr_aload_n dL_law_1248 (rfl : 1248 + 1 = 1249) rfl ?_
      refine zr_iconst dL_law_1249 (rfl : 1249 + 1 = 1250) ?_
      refine zr_laldR dL_law_1250 (rfl : 1250 + 1 = 1251) lc_171 lc_in ?_
      rw [show f' (jI 0).toNatClampNeg = (jI v).toInt64 from hf hz]
      refine zr_iload dL_law_1251 (rfl : 1251 + 2 = 1253) rfl ?_
      refine zr_i2l dL_law_1253 (rfl : 1253 + 1 = 1254) ?_
      refine zr_lcmp dL_law_1254 (rfl : 1254 + 1 = 1255) ?_
      rw [lc_cmp]
      refine zr_if_eq (tgt := 1260) dL_law_1255 (by decide) (rfl : 1255 + 3 = 1258) (jI_z (by decide) (by decide)) (fun _ => ?_) (fun h => absurd rfl h)
      refine zr_goto (tgt := 1863) dL_law_1260 (by decide) ?_
      exact hk _ _ _ _ _ _ _ _ _ _ _ _ hR'
  · exact absurd rfl h
theorem case_gameOf (hscr : zOld Γ 0 L xs) (hL : L ≤ 2048) (hi : 0 ≤ i ∧ i + 4 ≤ L) (hk : zHead Γ (d + 9) n kc ks 1863 i Q) : zHead Γ (d + 9) n (kc + 1) (ks + 6) 1263 i Q := by
  intro g B σ τ S ik th f o5 o6 o7 o8 hR
  obtain ⟨k, v, B', σ', τ', f', hk0, hf, hLw, hMw⟩ := out_gameOf (Γ := Γ) (d := d) (τ := τ) (th := th) (f := f) hR (jsc' xs (i + 1)) (jsc' xs (i + 2)) (jsc_r xs _) (jsc_r xs _)
  refine zr_aload_n dL_law_1263 (rfl : 1263 + 1 = 1264) rfl ?_
  refine zr_aload_n dL_law_1264 (rfl : 1264 + 1 = 1265) rfl ?_
  refine zr_iload dL_law_1265 (rfl : 1265 + 2 = 1267) rfl ?_
  refine zr_iconst dL_law_1267 (rfl : 1267 + 1 = 1268) ?_
  refine zr_iadd dL_law_1268 (rfl : 1268 + 1 = 1269) (by first | exact jI_add _ _ | rfl) ?_
  refine zr_scr dL_law_1269 (rfl : 1269 + 1 = 1270) hscr hL (by omega) (by omega) ?_
  refine zr_aload_n dL_law_1270 (rfl : 1270 + 1 = 1271) rfl ?_
  refine zr_iload dL_law_1271 (rfl : 1271 + 2 = 1273) rfl ?_
  refine zr_iconst dL_law_1273 (rfl : 1273 + 1 = 1274) ?_
  refine zr_iadd dL_law_1274 (rfl : 1274 + 1 = 1275) (by first | exact jI_add _ _ | rfl) ?_
  refine zr_scr dL_law_1275 (rfl : 1275 + 1 = 1276) hscr hL (by omega) (by omega) ?_
  refine zr_aload_n dL_law_1276 (rfl : 1276 + 1 = 1277) rfl ?_
  refine zr_callH dL_law_1277 (rfl : 1277 + 3 = 1280) l_L_170 (hLw n g) rfl rfl (Nat.le_of_ble_eq_true rfl) (by omega) (by omega) ?_ (fun _ _ _ _ q => q.elim)
  rintro r n1 g1 w1 ⟨rfl, rfl, rfl⟩
  rw [Nat.add_sub_cancel, Nat.add_sub_cancel]
  refine zr_istore (lv' := [_, _, _, _, _, _, _, _, _]) dL_law_1280 (rfl : 1280 + 2 = 1282) (Nat.le_of_ble_eq_true rfl) rfl ?_
  refine zr_aload_n dL_law_1282 (rfl : 1282 + 1 = 1283) rfl ?_
  refine zr_aload_n dL_law_1283 (rfl : 1283 + 1 = 1284) rfl ?_
  refine zr_iload dL_law_1284 (rfl : 1284 + 2 = 1286) rfl ?_
  refine zr_iconst dL_law_1286 (rfl : 1286 + 1 = 1287) ?_
  refine zr_iadd dL_law_1287 (rfl : 1287 + 1 = 1288) (by first | exact jI_add _ _ | rfl) ?_
  refine zr_scr dL_law_1288 (rfl : 1288 + 1 = 1289) hscr hL (by omega) (by omega) ?_
  refine zr_aload_n dL_law_1289 (rfl : 1289 + 1 = 1290) rfl ?_
  refine zr_iload dL_law_1290 (rfl : 1290 + 2 = 1292) rfl ?_
  refine zr_iconst dL_law_1292 (rfl : 1292 + 1 = 1293) ?_
  refine zr_iadd dL_law_1293 (rfl : 1293 + 1 = 1294) (by first | exact jI_add _ _ | rfl) ?_
  refine zr_scr dL_law_1294 (rfl : 1294 + 1 = 1295) hscr hL (by omega) (by omega) ?_
  refine zr_feV dL_law_1295 (rfl : 1295 + 3 = 1298) l_L_172 hMw lc_167 rfl rfl rfl (Nat.le_of_ble_eq_true rfl) ?_
  rintro _ _ ⟨rfl, S', ik', hR', rfl⟩
  refine zr_istore (lv' := [_, _, _, _, _, _, _, _, _]) dL_law_1298 (rfl : 1298 + 2 = 1300) (Nat.le_of_ble_eq_true rfl) rfl ?_
  refine zr_aload_n dL_law_1300 (rfl : 1300 + 1 = 1301) rfl ?_
  refine zr_fnV dL_law_1301 (rfl : 1301 + 3 = 1304) l_L_104 l_thrown lc_167 rfl rfl rfl (Nat.le_of_ble_eq_true rfl) ?_
  refine zr_iload dL_law_1304 (rfl : 1304 + 2 = 1306) rfl ?_
  refine zr_icmp_eq (tgt := 1311) dL_law_1306 (by decide) (rfl : 1306 + 3 = 1309) (jI_eq (by omega) (by omega) (by omega) (by omega)) (fun _ => ?_) (fun h => ?_)
  · refine zr_iload dL_law_1311 (rfl : 1311 + 2 = 1313) rfl ?_
    refine zr_if_ne (tgt := 1328) dL_law_1313 (by decide) (rfl : 1313 + 3 = 1316) (jI_z (by omega) (by omega)) (fun _ => ?_) (fun hz => ?_)
    · refine zr_goto (tgt := 1863) dL_law_1328 (by decide) ?_
      exact hk _ _ _ _ _ _ _ _ _ _ _ _ hR'
    · refine zr_aload_n dL_law_1316 (rfl : 1316 + 1 = 1317) rfl ?_
      refine zr_iconst dL_law_1317 (rfl : 1317 + 1 = 1318) ?_
      refine zr_laldR dL_law_1318 (rfl : 1318 + 1 = 1319) lc_171 lc_in ?_
      rw [show f' (jI 0).toNatClampNeg = (jI v).toInt64 from hf hz]
      refine zr_iload dL_law_1319 (rfl : 1319 + 2 = 1321) rfl ?_
      refine zr_i2l dL_law_1321 (rfl : 1321 + 1 = 1322) ?_
      refine zr_lcmp dL_law_1322 (rfl : 1322 + 1 = 1323) ?_
      rw [lc_cmp]
      refine zr_if_eq (tgt := 1328) dL_law_1323 (by decide) (rfl : 1323 + 3 = 1326) (jI_z (by decide) (by decide)) (fun _ => ?_) (fun h => absurd rfl h)
      refine zr_goto (tgt := 1863) dL_law_1328 (by decide) ?_
      exact hk _ _ _ _ _ _ _ _ _ _ _ _ hR'
  · exact absurd rfl h
theorem case_count (hscr : zOld Γ 0 L xs) (hL : L ≤ 2048) (hi : 0 ≤ i ∧ i + 4 ≤ L) (hk : zHead Γ (d + 9) n kc ks 1863 i Q) : zHead Γ (d + 9) n (kc + 1) (ks + 6) 1331 i Q := by
  intro g B σ τ S ik th f o5 o6 o7 o8 hR
  obtain ⟨k, v, B', σ', τ', f', hk0, hf, hLw, hMw⟩ := out_count (Γ := Γ) (d := d) (τ := τ) (th := th) (f := f) hR (jsc' xs (i + 1)) (jsc_r xs _)
  refine zr_aload_n dL_law_1331 (rfl : 1331 + 1 = 1332) rfl ?_
  refine zr_aload_n dL_law_1332 (rfl : 1332 + 1 = 1333) rfl ?_
  refine zr_iload dL_law_1333 (rfl : 1333 + 2 = 1335) rfl ?_
  refine zr_iconst dL_law_1335 (rfl : 1335 + 1 = 1336) ?_
  refine zr_iadd dL_law_1336 (rfl : 1336 + 1 = 1337) (by first | exact jI_add _ _ | rfl) ?_
  refine zr_scr dL_law_1337 (rfl : 1337 + 1 = 1338) hscr hL (by omega) (by omega) ?_
  refine zr_aload_n dL_law_1338 (rfl : 1338 + 1 = 1339) rfl ?_
  refine zr_callH dL_law_1339 (rfl : 1339 + 3 = 1342) l_L_173 (hLw n g) rfl rfl (Nat.le_of_ble_eq_true rfl) (by omega) (by omega) ?_ (fun _ _ _ _ q => q.elim)
  rintro r n1 g1 w1 ⟨rfl, rfl, rfl⟩
  rw [Nat.add_sub_cancel, Nat.add_sub_cancel]
  refine zr_istore (lv' := [_, _, _, _, _, _, _, _, _]) dL_law_1342 (rfl : 1342 + 2 = 1344) (Nat.le_of_ble_eq_true rfl) rfl ?_
  refine zr_aload_n dL_law_1344 (rfl : 1344 + 1 = 1345) rfl ?_
  refine zr_aload_n dL_law_1345 (rfl : 1345 + 1 = 1346) rfl ?_
  refine zr_iload dL_law_1346 (rfl : 1346 + 2 = 1348) rfl ?_
  refine zr_iconst dL_law_1348 (rfl : 1348 + 1 = 1349) ?_
  refine zr_iadd dL_law_1349 (rfl : 1349 + 1 = 1350) (by first | exact jI_add _ _ | rfl) ?_
  refine zr_scr dL_law_1350 (rfl : 1350 + 1 = 1351) hscr hL (by omega) (by omega) ?_
  refine zr_feV dL_law_1351 (rfl : 1351 + 3 = 1354) l_L_175 hMw lc_167 rfl rfl rfl (Nat.le_of_ble_eq_true rfl) ?_
  rintro _ _ ⟨rfl, S', ik', hR', rfl⟩
  refine zr_istore (lv' := [_, _, _, _, _, _, _, _, _]) dL_law_1354 (rfl : 1354 + 2 = 1356) (Nat.le_of_ble_eq_true rfl) rfl ?_
  refine zr_aload_n dL_law_1356 (rfl : 1356 + 1 = 1357) rfl ?_
  refine zr_fnV dL_law_1357 (rfl : 1357 + 3 = 1360) l_L_104 l_thrown lc_167 rfl rfl rfl (Nat.le_of_ble_eq_true rfl) ?_
  refine zr_iload dL_law_1360 (rfl : 1360 + 2 = 1362) rfl ?_
  refine zr_icmp_eq (tgt := 1367) dL_law_1362 (by decide) (rfl : 1362 + 3 = 1365) (jI_eq (by omega) (by omega) (by omega) (by omega)) (fun _ => ?_) (fun h => ?_)
  · refine zr_iload dL_law_1367 (rfl : 1367 + 2 = 1369) rfl ?_
    refine zr_if_ne (tgt := 1384) dL_law_1369 (by decide) (rfl : 1369 + 3 = 1372) (jI_z (by omega) (by omega)) (fun _ => ?_) (fun hz => ?_)
    · refine zr_goto (tgt := 1863) dL_law_1384 (by decide) ?_
      exact hk _ _ _ _ _ _ _ _ _ _ _ _ hR'
    · refine zr_aload_n dL_law_1372 (rfl : 1372 + 1 = 1373) rfl ?_
      refine zr_iconst dL_law_1373 (rfl : 1373 + 1 = 1374) ?_
      refine zr_laldR dL_law_1374 (rfl : 1374 + 1 = 1375) lc_171 lc_in ?_
      rw [show f' (jI 0).toNatClampNeg = (jI v).toInt64 from hf hz]
      refine zr_iload dL_law_1375 (rfl : 1375 + 2 = 1377) rfl ?_
      refine zr_i2l dL_law_1377 (rfl : 1377 + 1 = 1378) ?_
      refine zr_lcmp dL_law_1378 (rfl : 1378 + 1 = 1379) ?_
      rw [lc_cmp]
      refine zr_if_eq (tgt := 1384) dL_law_1379 (by decide) (rfl : 1379 + 3 = 1382) (jI_z (by decide) (by decide)) (fun _ => ?_) (fun h => absurd rfl h)
      refine zr_goto (tgt := 1863) dL_law_1384 (by decide) ?_
      exact hk _ _ _ _ _ _ _ _ _ _ _ _ hR'
  · exact absurd rfl h
theorem case_setting (hscr : zOld Γ 0 L xs) (hL : L ≤ 2048) (hi : 0 ≤ i ∧ i + 4 ≤ L) (hk : zHead Γ (d + 9) n kc ks 1863 i Q) : zHead Γ (d + 9) n (kc + 1) (ks + 6) 1387 i Q := by
  intro g B σ τ S ik th f o5 o6 o7 o8 hR
  obtain ⟨k, v, B', σ', τ', f', hk0, hf, hLw, hMw⟩ := out_setting (Γ := Γ) (d := d) (τ := τ) (th := th) (f := f) hR (jsc' xs (i + 1)) (jsc_r xs _)
  refine zr_aload_n dL_law_1387 (rfl : 1387 + 1 = 1388) rfl ?_
  refine zr_aload_n dL_law_1388 (rfl : 1388 + 1 = 1389) rfl ?_
  refine zr_iload dL_law_1389 (rfl : 1389 + 2 = 1391) rfl ?_
  refine zr_iconst dL_law_1391 (rfl : 1391 + 1 = 1392) ?_
  refine zr_iadd dL_law_1392 (rfl : 1392 + 1 = 1393) (by first | exact jI_add _ _ | rfl) ?_
  refine zr_scr dL_law_1393 (rfl : 1393 + 1 = 1394) hscr hL (by omega) (by omega) ?_
  refine zr_aload_n dL_law_1394 (rfl : 1394 + 1 = 1395) rfl ?_
  refine zr_callH dL_law_1395 (rfl : 1395 + 3 = 1398) l_L_176 (hLw n g) rfl rfl (Nat.le_of_ble_eq_true rfl) (by omega) (by omega) ?_ (fun _ _ _ _ q => q.elim)
  rintro r n1 g1 w1 ⟨rfl, rfl, rfl⟩
  rw [Nat.add_sub_cancel, Nat.add_sub_cancel]
  refine zr_istore (lv' := [_, _, _, _, _, _, _, _, _]) dL_law_1398 (rfl : 1398 + 2 = 1400) (Nat.le_of_ble_eq_true rfl) rfl ?_
  refine zr_aload_n dL_law_1400 (rfl : 1400 + 1 = 1401) rfl ?_
  refine zr_aload_n dL_law_1401 (rfl : 1401 + 1 = 1402) rfl ?_
  refine zr_iload dL_law_1402 (rfl : 1402 + 2 = 1404) rfl ?_
  refine zr_iconst dL_law_1404 (rfl : 1404 + 1 = 1405) ?_
  refine zr_iadd dL_law_1405 (rfl : 1405 + 1 = 1406) (by first | exact jI_add _ _ | rfl) ?_
  refine zr_scr dL_law_1406 (rfl : 1406 + 1 = 1407) hscr hL (by omega) (by omega) ?_
  refine zr_feV dL_law_1407 (rfl : 1407 + 3 = 1410) l_L_178 hMw lc_167 rfl rfl rfl (Nat.le_of_ble_eq_true rfl) ?_
  rintro _ _ ⟨rfl, S', ik', hR', rfl⟩
  refine zr_istore (lv' := [_, _, _, _, _, _, _, _, _]) dL_law_1410 (rfl : 1410 + 2 = 1412) (Nat.le_of_ble_eq_true rfl) rfl ?_
  refine zr_aload_n dL_law_1412 (rfl : 1412 + 1 = 1413) rfl ?_
  refine zr_fnV dL_law_1413 (rfl : 1413 + 3 = 1416) l_L_104 l_thrown lc_167 rfl rfl rfl (Nat.le_of_ble_eq_true rfl) ?_
  refine zr_iload dL_law_1416 (rfl : 1416 + 2 = 1418) rfl ?_
  refine zr_icmp_eq (tgt := 1423) dL_law_1418 (by decide) (rfl : 1418 + 3 = 1421) (jI_eq (by omega) (by omega) (by omega) (by omega)) (fun _ => ?_) (fun h => ?_)
  · refine zr_iload dL_law_1423 (rfl : 1423 + 2 = 1425) rfl ?_
    refine zr_if_ne (tgt := 1440) dL_law_1425 (by decide) (rfl : 1425 + 3 = 1428) (jI_z (by omega) (by omega)) (fun _ => ?_) (fun hz => ?_)
    · refine zr_goto (tgt := 1863) dL_law_1440 (by decide) ?_
      exact hk _ _ _ _ _ _ _ _ _ _ _ _ hR'
    · refine zr_aload_n dL_law_1428 (rfl : 1428 + 1 = 1429) rfl ?_
      refine zr_iconst dL_law_1429 (rfl : 1429 + 1 = 1430) ?_
      refine zr_laldR dL_law_1430 (rfl : 1430 + 1 = 1431) lc_171 lc_in ?_
      rw [show f' (jI 0).toNatClampNeg = (jI v).toInt64 from hf hz]
      refine zr_iload dL_law_1431 (rfl : 1431 + 2 = 1433) rfl ?_
      refine zr_i2l dL_law_1433 (rfl : 1433 + 1 = 1434) ?_
      refine zr_lcmp dL_law_1434 (rfl : 1434 + 1 = 1435) ?_
      rw [lc_cmp]
      refine zr_if_eq (tgt := 1440) dL_law_1435 (by decide) (rfl : 1435 + 3 = 1438) (jI_z (by decide) (by decide)) (fun _ => ?_) (fun h => absurd rfl h)
      refine zr_goto (tgt := 1863) dL_law_1440 (by decide) ?_
      exact hk _ _ _ _ _ _ _ _ _ _ _ _ hR'
  · exact absurd rfl h
theorem case_whyNot (hscr : zOld Γ 0 L xs) (hL : L ≤ 2048) (hi : 0 ≤ i ∧ i + 4 ≤ L) (hk : zHead Γ (d + 9) n kc ks 1863 i Q) : zHead Γ (d + 9) n (kc + 1) (ks + 6) 1443 i Q := by
  intro g B σ τ S ik th f o5 o6 o7 o8 hR
  obtain ⟨k, v, B', σ', τ', f', hk0, hf, hLw, hMw⟩ := out_whyNot (Γ := Γ) (d := d) (τ := τ) (th := th) (f := f) hR (jsc' xs (i + 1)) (jsc' xs (i + 2)) (jsc' xs (i + 3)) (jsc_r xs _) (jsc_r xs _) (jsc_r xs _)
  refine zr_aload_n dL_law_1443 (rfl : 1443 + 1 = 1444) rfl ?_
  refine zr_aload_n dL_law_1444 (rfl : 1444 + 1 = 1445) rfl ?_
  refine zr_iload dL_law_1445 (rfl : 1445 + 2 = 1447) rfl ?_
  refine zr_iconst dL_law_1447 (rfl : 1447 + 1 = 1448) ?_
  refine zr_iadd dL_law_1448 (rfl : 1448 + 1 = 1449) (by first | exact jI_add _ _ | rfl) ?_
  refine zr_scr dL_law_1449 (rfl : 1449 + 1 = 1450) hscr hL (by omega) (by omega) ?_
  refine zr_aload_n dL_law_1450 (rfl : 1450 + 1 = 1451) rfl ?_
  refine zr_iload dL_law_1451 (rfl : 1451 + 2 = 1453) rfl ?_
  refine zr_iconst dL_law_1453 (rfl : 1453 + 1 = 1454) ?_
  refine zr_iadd dL_law_1454 (rfl : 1454 + 1 = 1455) (by first | exact jI_add _ _ | rfl) ?_
  refine zr_scr dL_law_1455 (rfl : 1455 + 1 = 1456) hscr hL (by omega) (by omega) ?_
  refine zr_aload_n dL_law_1456 (rfl : 1456 + 1 = 1457) rfl ?_
  refine zr_iload dL_law_1457 (rfl : 1457 + 2 = 1459) rfl ?_
  refine zr_iconst dL_law_1459 (rfl : 1459 + 1 = 1460) ?_
  refine zr_iadd dL_law_1460 (rfl : 1460 + 1 = 1461) (by first | exact jI_add _ _ | rfl) ?_
  refine zr_scr dL_law_1461 (rfl : 1461 + 1 = 1462) hscr hL (by omega) (by omega) ?_
  refine zr_aload_n dL_law_1462 (rfl : 1462 + 1 = 1463) rfl ?_
  refine zr_callH dL_law_1463 (rfl : 1463 + 3 = 1466) l_L_179 (hLw n g) rfl rfl (Nat.le_of_ble_eq_true rfl) (by omega) (by omega) ?_ (fun _ _ _ _ q => q.elim)
  rintro r n1 g1 w1 ⟨rfl, rfl, rfl⟩
  rw [Nat.add_sub_cancel, Nat.add_sub_cancel]
  refine zr_istore (lv' := [_, _, _, _, _, _, _, _, _]) dL_law_1466 (rfl : 1466 + 2 = 1468) (Nat.le_of_ble_eq_true rfl) rfl ?_
  refine zr_aload_n dL_law_1468 (rfl : 1468 + 1 = 1469) rfl ?_
  refine zr_aload_n dL_law_1469 (rfl : 1469 + 1 = 1470) rfl ?_
  refine zr_iload dL_law_1470 (rfl : 1470 + 2 = 1472) rfl ?_
  refine zr_iconst dL_law_1472 (rfl : 1472 + 1 = 1473) ?_
  refine zr_iadd dL_law_1473 (rfl : 1473 + 1 = 1474) (by first | exact jI_add _ _ | rfl) ?_
  refine zr_scr dL_law_1474 (rfl : 1474 + 1 = 1475) hscr hL (by omega) (by omega) ?_
  refine zr_aload_n dL_law_1475 (rfl : 1475 + 1 = 1476) rfl ?_
  refine zr_iload dL_law_1476 (rfl : 1476 + 2 = 1478) rfl ?_
  refine zr_iconst dL_law_1478 (rfl : 1478 + 1 = 1479) ?_
  refine zr_iadd dL_law_1479 (rfl : 1479 + 1 = 1480) (by first | exact jI_add _ _ | rfl) ?_
  refine zr_scr dL_law_1480 (rfl : 1480 + 1 = 1481) hscr hL (by omega) (by omega) ?_
  refine zr_aload_n dL_law_1481 (rfl : 1481 + 1 = 1482) rfl ?_
  refine zr_iload dL_law_1482 (rfl : 1482 + 2 = 1484) rfl ?_
  refine zr_iconst dL_law_1484 (rfl : 1484 + 1 = 1485) ?_
  refine zr_iadd dL_law_1485 (rfl : 1485 + 1 = 1486) (by first | exact jI_add _ _ | rfl) ?_
  refine zr_scr dL_law_1486 (rfl : 1486 + 1 = 1487) hscr hL (by omega) (by omega) ?_
  refine zr_feV dL_law_1487 (rfl : 1487 + 3 = 1490) l_L_181 hMw lc_167 rfl rfl rfl (Nat.le_of_ble_eq_true rfl) ?_
  rintro _ _ ⟨rfl, S', ik', hR', rfl⟩
  refine zr_istore (lv' := [_, _, _, _, _, _, _, _, _]) dL_law_1490 (rfl : 1490 + 2 = 1492) (Nat.le_of_ble_eq_true rfl) rfl ?_
  refine zr_aload_n dL_law_1492 (rfl : 1492 + 1 = 1493) rfl ?_
  refine zr_fnV dL_law_1493 (rfl : 1493 + 3 = 1496) l_L_104 l_thrown lc_167 rfl rfl rfl (Nat.le_of_ble_eq_true rfl) ?_
  refine zr_iload dL_law_1496 (rfl : 1496 + 2 = 1498) rfl ?_
  refine zr_icmp_eq (tgt := 1503) dL_law_1498 (by decide) (rfl : 1498 + 3 = 1501) (jI_eq (by omega) (by omega) (by omega) (by omega)) (fun _ => ?_) (fun h => ?_)
  · refine zr_iload dL_law_1503 (rfl : 1503 + 2 = 1505) rfl ?_
    refine zr_if_ne (tgt := 1520) dL_law_1505 (by decide) (rfl : 1505 + 3 = 1508) (jI_z (by omega) (by omega)) (fun _ => ?_) (fun hz => ?_)
    · refine zr_goto (tgt := 1863) dL_law_1520 (by decide) ?_
      exact hk _ _ _ _ _ _ _ _ _ _ _ _ hR'
    · refine zr_aload_n dL_law_1508 (rfl : 1508 + 1 = 1509) rfl ?_
      refine zr_iconst dL_law_1509 (rfl : 1509 + 1 = 1510) ?_
      refine zr_laldR dL_law_1510 (rfl : 1510 + 1 = 1511) lc_171 lc_in ?_
      rw [show f' (jI 0).toNatClampNeg = (jI v).toInt64 from hf hz]
      refine zr_iload dL_law_1511 (rfl : 1511 + 2 = 1513) rfl ?_
      refine zr_i2l dL_law_1513 (rfl : 1513 + 1 = 1514) ?_
      refine zr_lcmp dL_law_1514 (rfl : 1514 + 1 = 1515) ?_
      rw [lc_cmp]
      refine zr_if_eq (tgt := 1520) dL_law_1515 (by decide) (rfl : 1515 + 3 = 1518) (jI_z (by decide) (by decide)) (fun _ => ?_) (fun h => absurd rfl h)
      refine zr_goto (tgt := 1863) dL_law_1520 (by decide) ?_
      exact hk _ _ _ _ _ _ _ _ _ _ _ _ hR'
  · exact absurd rfl h
theorem case_ifClaimed (hscr : zOld Γ 0 L xs) (hL : L ≤ 2048) (hi : 0 ≤ i ∧ i + 4 ≤ L) (hk : zHead Γ (d + 9) n kc ks 1863 i Q) : zHead Γ (d + 9) n (kc + 1) (ks + 6) 1523 i Q := by
  intro g B σ τ S ik th f o5 o6 o7 o8 hR
  obtain ⟨k, v, B', σ', τ', f', hk0, hf, hLw, hMw⟩ := out_ifClaimed (Γ := Γ) (d := d) (τ := τ) (th := th) (f := f) hR (jsc' xs (i + 1)) (jsc' xs (i + 2)) (jsc_r xs _) (jsc_r xs _)
  refine zr_aload_n dL_law_1523 (rfl : 1523 + 1 = 1524) rfl ?_
  refine zr_aload_n dL_law_1524 (rfl : 1524 + 1 = 1525) rfl ?_
  refine zr_iload dL_law_1525 (rfl : 1525 + 2 = 1527) rfl ?_
  refine zr_iconst dL_law_1527 (rfl : 1527 + 1 = 1528) ?_
  refine zr_iadd dL_law_1528 (rfl : 1528 + 1 = 1529) (by first | exact jI_add _ _ | rfl) ?_
  refine zr_scr dL_law_1529 (rfl : 1529 + 1 = 1530) hscr hL (by omega) (by omega) ?_
  refine zr_aload_n dL_law_1530 (rfl : 1530 + 1 = 1531) rfl ?_
  refine zr_iload dL_law_1531 (rfl : 1531 + 2 = 1533) rfl ?_
  refine zr_iconst dL_law_1533 (rfl : 1533 + 1 = 1534) ?_
  refine zr_iadd dL_law_1534 (rfl : 1534 + 1 = 1535) (by first | exact jI_add _ _ | rfl) ?_
  refine zr_scr dL_law_1535 (rfl : 1535 + 1 = 1536) hscr hL (by omega) (by omega) ?_
  refine zr_aload_n dL_law_1536 (rfl : 1536 + 1 = 1537) rfl ?_
  refine zr_callH dL_law_1537 (rfl : 1537 + 3 = 1540) l_L_182 (hLw n g) rfl rfl (Nat.le_of_ble_eq_true rfl) (by omega) (by omega) ?_ (fun _ _ _ _ q => q.elim)
  rintro r n1 g1 w1 ⟨rfl, rfl, rfl⟩
  rw [Nat.add_sub_cancel, Nat.add_sub_cancel]
  refine zr_istore (lv' := [_, _, _, _, _, _, _, _, _]) dL_law_1540 (rfl : 1540 + 2 = 1542) (Nat.le_of_ble_eq_true rfl) rfl ?_
  refine zr_aload_n dL_law_1542 (rfl : 1542 + 1 = 1543) rfl ?_
  refine zr_aload_n dL_law_1543 (rfl : 1543 + 1 = 1544) rfl ?_
  refine zr_iload dL_law_1544 (rfl : 1544 + 2 = 1546) rfl ?_
  refine zr_iconst dL_law_1546 (rfl : 1546 + 1 = 1547) ?_
  refine zr_iadd dL_law_1547 (rfl : 1547 + 1 = 1548) (by first | exact jI_add _ _ | rfl) ?_
  refine zr_scr dL_law_1548 (rfl : 1548 + 1 = 1549) hscr hL (by omega) (by omega) ?_
  refine zr_aload_n dL_law_1549 (rfl : 1549 + 1 = 1550) rfl ?_
  refine zr_iload dL_law_1550 (rfl : 1550 + 2 = 1552) rfl ?_
  refine zr_iconst dL_law_1552 (rfl : 1552 + 1 = 1553) ?_
  refine zr_iadd dL_law_1553 (rfl : 1553 + 1 = 1554) (by first | exact jI_add _ _ | rfl) ?_
  refine zr_scr dL_law_1554 (rfl : 1554 + 1 = 1555) hscr hL (by omega) (by omega) ?_
  refine zr_feV dL_law_1555 (rfl : 1555 + 3 = 1558) l_L_184 hMw lc_167 rfl rfl rfl (Nat.le_of_ble_eq_true rfl) ?_
  rintro _ _ ⟨rfl, S', ik', hR', rfl⟩
  refine zr_istore (lv' := [_, _, _, _, _, _, _, _, _]) dL_law_1558 (rfl : 1558 + 2 = 1560) (Nat.le_of_ble_eq_true rfl) rfl ?_
  refine zr_aload_n dL_law_1560 (rfl : 1560 + 1 = 1561) rfl ?_
  refine zr_fnV dL_law_1561 (rfl : 1561 + 3 = 1564) l_L_104 l_thrown lc_167 rfl rfl rfl (Nat.le_of_ble_eq_true rfl) ?_
  refine zr_iload dL_law_1564 (rfl : 1564 + 2 = 1566) rfl ?_
  refine zr_icmp_eq (tgt := 1571) dL_law_1566 (by decide) (rfl : 1566 + 3 = 1569) (jI_eq (by omega) (by omega) (by omega) (by omega)) (fun _ => ?_) (fun h => ?_)
  · refine zr_iload dL_law_1571 (rfl : 1571 + 2 = 1573) rfl ?_
    refine zr_if_ne (tgt := 1588) dL_law_1573 (by decide) (rfl : 1573 + 3 = 1576) (jI_z (by omega) (by omega)) (fun _ => ?_) (fun hz => ?_)
    · refine zr_goto (tgt := 1863) dL_law_1588 (by decide) ?_
      exact hk _ _ _ _ _ _ _ _ _ _ _ _ hR'
    · refine zr_aload_n dL_law_1576 (rfl : 1576 + 1 = 1577) rfl ?_
      refine zr_iconst dL_law_1577 (rfl : 1577 + 1 = 1578) ?_
      refine zr_laldR dL_law_1578 (rfl : 1578 + 1 = 1579) lc_171 lc_in ?_
      rw [show f' (jI 0).toNatClampNeg = (jI v).toInt64 from hf hz]
      refine zr_iload dL_law_1579 (rfl : 1579 + 2 = 1581) rfl ?_
      refine zr_i2l dL_law_1581 (rfl : 1581 + 1 = 1582) ?_
      refine zr_lcmp dL_law_1582 (rfl : 1582 + 1 = 1583) ?_
      rw [lc_cmp]
      refine zr_if_eq (tgt := 1588) dL_law_1583 (by decide) (rfl : 1583 + 3 = 1586) (jI_z (by decide) (by decide)) (fun _ => ?_) (fun h => absurd rfl h)
      refine zr_goto (tgt := 1863) dL_law_1588 (by decide) ?_
      exact hk _ _ _ _ _ _ _ _ _ _ _ _ hR'
  · exact absurd rfl h
theorem case_missing (hscr : zOld Γ 0 L xs) (hL : L ≤ 2048) (hi : 0 ≤ i ∧ i + 4 ≤ L) (hk : zHead Γ (d + 9) n kc ks 1863 i Q) : zHead Γ (d + 9) n (kc + 1) (ks + 6) 1591 i Q := by
  intro g B σ τ S ik th f o5 o6 o7 o8 hR
  obtain ⟨k, v, B', σ', τ', f', hk0, hf, hLw, hMw⟩ := out_missing (Γ := Γ) (d := d) (τ := τ) (th := th) (f := f) hR (jsc' xs (i + 1)) (jsc' xs (i + 2)) (jsc' xs (i + 3)) (jsc_r xs _) (jsc_r xs _) (jsc_r xs _)
  refine zr_aload_n dL_law_1591 (rfl : 1591 + 1 = 1592) rfl ?_
  refine zr_aload_n dL_law_1592 (rfl : 1592 + 1 = 1593) rfl ?_
  refine zr_iload dL_law_1593 (rfl : 1593 + 2 = 1595) rfl ?_
  refine zr_iconst dL_law_1595 (rfl : 1595 + 1 = 1596) ?_
  refine zr_iadd dL_law_1596 (rfl : 1596 + 1 = 1597) (by first | exact jI_add _ _ | rfl) ?_
  refine zr_scr dL_law_1597 (rfl : 1597 + 1 = 1598) hscr hL (by omega) (by omega) ?_
  refine zr_aload_n dL_law_1598 (rfl : 1598 + 1 = 1599) rfl ?_
  refine zr_iload dL_law_1599 (rfl : 1599 + 2 = 1601) rfl ?_
  refine zr_iconst dL_law_1601 (rfl : 1601 + 1 = 1602) ?_
  refine zr_iadd dL_law_1602 (rfl : 1602 + 1 = 1603) (by first | exact jI_add _ _ | rfl) ?_
  refine zr_scr dL_law_1603 (rfl : 1603 + 1 = 1604) hscr hL (by omega) (by omega) ?_
  refine zr_aload_n dL_law_1604 (rfl : 1604 + 1 = 1605) rfl ?_
  refine zr_iload dL_law_1605 (rfl : 1605 + 2 = 1607) rfl ?_
  refine zr_iconst dL_law_1607 (rfl : 1607 + 1 = 1608) ?_
  refine zr_iadd dL_law_1608 (rfl : 1608 + 1 = 1609) (by first | exact jI_add _ _ | rfl) ?_
  refine zr_scr dL_law_1609 (rfl : 1609 + 1 = 1610) hscr hL (by omega) (by omega) ?_
  refine zr_aload_n dL_law_1610 (rfl : 1610 + 1 = 1611) rfl ?_
  refine zr_callH dL_law_1611 (rfl : 1611 + 3 = 1614) l_L_185 (hLw n g) rfl rfl (Nat.le_of_ble_eq_true rfl) (by omega) (by omega) ?_ (fun _ _ _ _ q => q.elim)
  rintro r n1 g1 w1 ⟨rfl, rfl, rfl⟩
  rw [Nat.add_sub_cancel, Nat.add_sub_cancel]
  refine zr_istore (lv' := [_, _, _, _, _, _, _, _, _]) dL_law_1614 (rfl : 1614 + 2 = 1616) (Nat.le_of_ble_eq_true rfl) rfl ?_
  refine zr_aload_n dL_law_1616 (rfl : 1616 + 1 = 1617) rfl ?_
  refine zr_aload_n dL_law_1617 (rfl : 1617 + 1 = 1618) rfl ?_
  refine zr_iload dL_law_1618 (rfl : 1618 + 2 = 1620) rfl ?_
  refine zr_iconst dL_law_1620 (rfl : 1620 + 1 = 1621) ?_
  refine zr_iadd dL_law_1621 (rfl : 1621 + 1 = 1622) (by first | exact jI_add _ _ | rfl) ?_
  refine zr_scr dL_law_1622 (rfl : 1622 + 1 = 1623) hscr hL (by omega) (by omega) ?_
  refine zr_aload_n dL_law_1623 (rfl : 1623 + 1 = 1624) rfl ?_
  refine zr_iload dL_law_1624 (rfl : 1624 + 2 = 1626) rfl ?_
  refine zr_iconst dL_law_1626 (rfl : 1626 + 1 = 1627) ?_
  refine zr_iadd dL_law_1627 (rfl : 1627 + 1 = 1628) (by first | exact jI_add _ _ | rfl) ?_
  refine zr_scr dL_law_1628 (rfl : 1628 + 1 = 1629) hscr hL (by omega) (by omega) ?_
  refine zr_aload_n dL_law_1629 (rfl : 1629 + 1 = 1630) rfl ?_
  refine zr_iload dL_law_1630 (rfl : 1630 + 2 = 1632) rfl ?_
  refine zr_iconst dL_law_1632 (rfl : 1632 + 1 = 1633) ?_
  refine zr_iadd dL_law_1633 (rfl : 1633 + 1 = 1634) (by first | exact jI_add _ _ | rfl) ?_
  refine zr_scr dL_law_1634 (rfl : 1634 + 1 = 1635) hscr hL (by omega) (by omega) ?_
  refine zr_feV dL_law_1635 (rfl : 1635 + 3 = 1638) l_L_187 hMw lc_167 rfl rfl rfl (Nat.le_of_ble_eq_true rfl) ?_
  rintro _ _ ⟨rfl, S', ik', hR', rfl⟩
  refine zr_istore (lv' := [_, _, _, _, _, _, _, _, _]) dL_law_1638 (rfl : 1638 + 2 = 1640) (Nat.le_of_ble_eq_true rfl) rfl ?_
  refine zr_aload_n dL_law_1640 (rfl : 1640 + 1 = 1641) rfl ?_
  refine zr_fnV dL_law_1641 (rfl : 1641 + 3 = 1644) l_L_104 l_thrown lc_167 rfl rfl rfl (Nat.le_of_ble_eq_true rfl) ?_
  refine zr_iload dL_law_1644 (rfl : 1644 + 2 = 1646) rfl ?_
  refine zr_icmp_eq (tgt := 1651) dL_law_1646 (by decide) (rfl : 1646 + 3 = 1649) (jI_eq (by omega) (by omega) (by omega) (by omega)) (fun _ => ?_) (fun h => ?_)
  · refine zr_iload dL_law_1651 (rfl : 1651 + 2 = 1653) rfl ?_
    refine zr_if_ne (tgt := 1668) dL_law_1653 (by decide) (rfl : 1653 + 3 = 1656) (jI_z (by omega) (by omega)) (fun _ => ?_) (fun hz => ?_)
    · refine zr_goto (tgt := 1863) dL_law_1668 (by decide) ?_
      exact hk _ _ _ _ _ _ _ _ _ _ _ _ hR'
    · refine zr_aload_n dL_law_1656 (rfl : 1656 + 1 = 1657) rfl ?_
      refine zr_iconst dL_law_1657 (rfl : 1657 + 1 = 1658) ?_
      refine zr_laldR dL_law_1658 (rfl : 1658 + 1 = 1659) lc_171 lc_in ?_
      rw [show f' (jI 0).toNatClampNeg = (jI v).toInt64 from hf hz]
      refine zr_iload dL_law_1659 (rfl : 1659 + 2 = 1661) rfl ?_
      refine zr_i2l dL_law_1661 (rfl : 1661 + 1 = 1662) ?_
      refine zr_lcmp dL_law_1662 (rfl : 1662 + 1 = 1663) ?_
      rw [lc_cmp]
      refine zr_if_eq (tgt := 1668) dL_law_1663 (by decide) (rfl : 1663 + 3 = 1666) (jI_z (by decide) (by decide)) (fun _ => ?_) (fun h => absurd rfl h)
      refine zr_goto (tgt := 1863) dL_law_1668 (by decide) ?_
      exact hk _ _ _ _ _ _ _ _ _ _ _ _ hR'
  · exact absurd rfl h
theorem case_fullAt (hscr : zOld Γ 0 L xs) (hL : L ≤ 2048) (hi : 0 ≤ i ∧ i + 4 ≤ L) (hk : zHead Γ (d + 9) n kc ks 1863 i Q) : zHead Γ (d + 9) n (kc + 1) (ks + 6) 1671 i Q := by
  intro g B σ τ S ik th f o5 o6 o7 o8 hR
  obtain ⟨k, v, B', σ', τ', f', hk0, hf, hLw, hMw⟩ := out_fullAt (Γ := Γ) (d := d) (τ := τ) (th := th) (f := f) hR (jsc' xs (i + 1)) (jsc' xs (i + 2)) (jsc_r xs _) (jsc_r xs _)
  refine zr_aload_n dL_law_1671 (rfl : 1671 + 1 = 1672) rfl ?_
  refine zr_aload_n dL_law_1672 (rfl : 1672 + 1 = 1673) rfl ?_
  refine zr_iload dL_law_1673 (rfl : 1673 + 2 = 1675) rfl ?_
  refine zr_iconst dL_law_1675 (rfl : 1675 + 1 = 1676) ?_
  refine zr_iadd dL_law_1676 (rfl : 1676 + 1 = 1677) (by first | exact jI_add _ _ | rfl) ?_
  refine zr_scr dL_law_1677 (rfl : 1677 + 1 = 1678) hscr hL (by omega) (by omega) ?_
  refine zr_aload_n dL_law_1678 (rfl : 1678 + 1 = 1679) rfl ?_
  refine zr_iload dL_law_1679 (rfl : 1679 + 2 = 1681) rfl ?_
  refine zr_iconst dL_law_1681 (rfl : 1681 + 1 = 1682) ?_
  refine zr_iadd dL_law_1682 (rfl : 1682 + 1 = 1683) (by first | exact jI_add _ _ | rfl) ?_
  refine zr_scr dL_law_1683 (rfl : 1683 + 1 = 1684) hscr hL (by omega) (by omega) ?_
  refine zr_aload_n dL_law_1684 (rfl : 1684 + 1 = 1685) rfl ?_
  refine zr_callH dL_law_1685 (rfl : 1685 + 3 = 1688) l_L_188 (hLw n g) rfl rfl (Nat.le_of_ble_eq_true rfl) (by omega) (by omega) ?_ (fun _ _ _ _ q => q.elim)
  rintro r n1 g1 w1 ⟨rfl, rfl, rfl⟩
  rw [Nat.add_sub_cancel, Nat.add_sub_cancel]
  refine zr_istore (lv' := [_, _, _, _, _, _, _, _, _]) dL_law_1688 (rfl : 1688 + 2 = 1690) (Nat.le_of_ble_eq_true rfl) rfl ?_
  refine zr_aload_n dL_law_1690 (rfl : 1690 + 1 = 1691) rfl ?_
  refine zr_aload_n dL_law_1691 (rfl : 1691 + 1 = 1692) rfl ?_
  refine zr_iload dL_law_1692 (rfl : 1692 + 2 = 1694) rfl ?_
  refine zr_iconst dL_law_1694 (rfl : 1694 + 1 = 1695) ?_
  refine zr_iadd dL_law_1695 (rfl : 1695 + 1 = 1696) (by first | exact jI_add _ _ | rfl) ?_
  refine zr_scr dL_law_1696 (rfl : 1696 + 1 = 1697) hscr hL (by omega) (by omega) ?_
  refine zr_aload_n dL_law_1697 (rfl : 1697 + 1 = 1698) rfl ?_
  refine zr_iload dL_law_1698 (rfl : 1698 + 2 = 1700) rfl ?_
  refine zr_iconst dL_law_1700 (rfl : 1700 + 1 = 1701) ?_
  refine zr_iadd dL_law_1701 (rfl : 1701 + 1 = 1702) (by first | exact jI_add _ _ | rfl) ?_
  refine zr_scr dL_law_1702 (rfl : 1702 + 1 = 1703) hscr hL (by omega) (by omega) ?_
  refine zr_feV dL_law_1703 (rfl : 1703 + 3 = 1706) l_L_190 hMw lc_167 rfl rfl rfl (Nat.le_of_ble_eq_true rfl) ?_
  rintro _ _ ⟨rfl, S', ik', hR', rfl⟩
  refine zr_istore (lv' := [_, _, _, _, _, _, _, _, _]) dL_law_1706 (rfl : 1706 + 2 = 1708) (Nat.le_of_ble_eq_true rfl) rfl ?_
  refine zr_aload_n dL_law_1708 (rfl : 1708 + 1 = 1709) rfl ?_
  refine zr_fnV dL_law_1709 (rfl : 1709 + 3 = 1712) l_L_104 l_thrown lc_167 rfl rfl rfl (Nat.le_of_ble_eq_true rfl) ?_
  refine zr_iload dL_law_1712 (rfl : 1712 + 2 = 1714) rfl ?_
  refine zr_icmp_eq (tgt := 1719) dL_law_1714 (by decide) (rfl : 1714 + 3 = 1717) (jI_eq (by omega) (by omega) (by omega) (by omega)) (fun _ => ?_) (fun h => ?_)
  · refine zr_iload dL_law_1719 (rfl : 1719 + 2 = 1721) rfl ?_
    refine zr_if_ne (tgt := 1736) dL_law_1721 (by decide) (rfl : 1721 + 3 = 1724) (jI_z (by omega) (by omega)) (fun _ => ?_) (fun hz => ?_)
    · refine zr_goto (tgt := 1863) dL_law_1736 (by decide) ?_
      exact hk _ _ _ _ _ _ _ _ _ _ _ _ hR'
    · refine zr_aload_n dL_law_1724 (rfl : 1724 + 1 = 1725) rfl ?_
      refine zr_iconst dL_law_1725 (rfl : 1725 + 1 = 1726) ?_
      refine zr_laldR dL_law_1726 (rfl : 1726 + 1 = 1727) lc_171 lc_in ?_
      rw [show f' (jI 0).toNatClampNeg = (jI v).toInt64 from hf hz]
      refine zr_iload dL_law_1727 (rfl : 1727 + 2 = 1729) rfl ?_
      refine zr_i2l dL_law_1729 (rfl : 1729 + 1 = 1730) ?_
      refine zr_lcmp dL_law_1730 (rfl : 1730 + 1 = 1731) ?_
      rw [lc_cmp]
      refine zr_if_eq (tgt := 1736) dL_law_1731 (by decide) (rfl : 1731 + 3 = 1734) (jI_z (by decide) (by decide)) (fun _ => ?_) (fun h => absurd rfl h)
      refine zr_goto (tgt := 1863) dL_law_1736 (by decide) ?_
      exact hk _ _ _ _ _ _ _ _ _ _ _ _ hR'
  · exact absurd rfl h
theorem case_firstFull (hscr : zOld Γ 0 L xs) (hL : L ≤ 2048) (hi : 0 ≤ i ∧ i + 4 ≤ L) (hk : zHead Γ (d + 9) n kc ks 1863 i Q) : zHead Γ (d + 9) n (kc + 1) (ks + 6) 1739 i Q := by
  intro g B σ τ S ik th f o5 o6 o7 o8 hR
  have ok := hR.1
  have lk := hR.2.1
  have ck := hR.2.2.2.1
  obtain ⟨τ2, hx⟩ := s_firstFull (Γ := Γ) (d := d + 3) (σ := σ) (τ := τ) (u := mw S σ.sc ik th σ.T σ.L (zw0 f)) (B := B) ok
  have hm := p_firstFull (Γ := Γ) (d := d) (th := th) (w := bk 6 (B) (cr (σ) τ2 (zw0 f))) hR
  rw [← lc_comm] at hm
  refine zRun.less (Nat.le_add_right kc 1) (Nat.le_add_right ks 6) ?_
  refine zr_aload_n dL_law_1739 (rfl : 1739 + 1 = 1740) rfl ?_
  refine zr_fnV dL_law_1740 (rfl : 1740 + 3 = 1743) l_L_191 hx lc_5 rfl rfl rfl (Nat.le_of_ble_eq_true rfl) ?_
  refine zr_aload_n dL_law_1743 (rfl : 1743 + 1 = 1744) rfl ?_
  refine zr_feV dL_law_1744 (rfl : 1744 + 3 = 1747) l_L_194 hm lc_167 rfl rfl rfl (Nat.le_of_ble_eq_true rfl) ?_
  rintro _ _ ⟨rfl, S', ik', hR', rfl⟩
  rw [← lc_comm]
  refine zr_icmp_eq (P := True) (tgt := 1863) dL_law_1747 (by decide) (rfl : 1747 + 3 = 1750) ⟨fun _ => trivial, fun _ => rfl⟩ (fun _ => ?_) (fun h => absurd trivial h)
  exact hk _ _ _ _ _ _ _ _ _ _ _ _ hR'
theorem case_next (hscr : zOld Γ 0 L xs) (hL : L ≤ 2048) (hi : 0 ≤ i ∧ i + 4 ≤ L) (hk : zHead Γ (d + 9) n kc ks 1863 i Q) : zHead Γ (d + 9) n (kc + 1) (ks + 6) 1752 i Q := by
  intro g B σ τ S ik th f o5 o6 o7 o8 hR
  obtain ⟨k, v, B', σ', τ', f', hk0, hf, hLw, hMw⟩ := out_next (Γ := Γ) (d := d) (τ := τ) (th := th) (f := f) hR (jsc' xs (i + 1)) (jsc_r xs _)
  refine zr_aload_n dL_law_1752 (rfl : 1752 + 1 = 1753) rfl ?_
  refine zr_aload_n dL_law_1753 (rfl : 1753 + 1 = 1754) rfl ?_
  refine zr_iload dL_law_1754 (rfl : 1754 + 2 = 1756) rfl ?_
  refine zr_iconst dL_law_1756 (rfl : 1756 + 1 = 1757) ?_
  refine zr_iadd dL_law_1757 (rfl : 1757 + 1 = 1758) (by first | exact jI_add _ _ | rfl) ?_
  refine zr_scr dL_law_1758 (rfl : 1758 + 1 = 1759) hscr hL (by omega) (by omega) ?_
  refine zr_aload_n dL_law_1759 (rfl : 1759 + 1 = 1760) rfl ?_
  refine zr_callH dL_law_1760 (rfl : 1760 + 3 = 1763) l_L_195 (hLw n g) rfl rfl (Nat.le_of_ble_eq_true rfl) (by omega) (by omega) ?_ (fun _ _ _ _ q => q.elim)
  rintro r n1 g1 w1 ⟨rfl, rfl, rfl⟩
  rw [Nat.add_sub_cancel, Nat.add_sub_cancel]
  refine zr_istore (lv' := [_, _, _, _, _, _, _, _, _]) dL_law_1763 (rfl : 1763 + 2 = 1765) (Nat.le_of_ble_eq_true rfl) rfl ?_
  refine zr_aload_n dL_law_1765 (rfl : 1765 + 1 = 1766) rfl ?_
  refine zr_aload_n dL_law_1766 (rfl : 1766 + 1 = 1767) rfl ?_
  refine zr_iload dL_law_1767 (rfl : 1767 + 2 = 1769) rfl ?_
  refine zr_iconst dL_law_1769 (rfl : 1769 + 1 = 1770) ?_
  refine zr_iadd dL_law_1770 (rfl : 1770 + 1 = 1771) (by first | exact jI_add _ _ | rfl) ?_
  refine zr_scr dL_law_1771 (rfl : 1771 + 1 = 1772) hscr hL (by omega) (by omega) ?_
  refine zr_feV dL_law_1772 (rfl : 1772 + 3 = 1775) l_L_197 hMw lc_167 rfl rfl rfl (Nat.le_of_ble_eq_true rfl) ?_
  rintro _ _ ⟨rfl, S', ik', hR', rfl⟩
  refine zr_istore (lv' := [_, _, _, _, _, _, _, _, _]) dL_law_1775 (rfl : 1775 + 2 = 1777) (Nat.le_of_ble_eq_true rfl) rfl ?_
  refine zr_aload_n dL_law_1777 (rfl : 1777 + 1 = 1778) rfl ?_
  refine zr_fnV dL_law_1778 (rfl : 1778 + 3 = 1781) l_L_104 l_thrown lc_167 rfl rfl rfl (Nat.le_of_ble_eq_true rfl) ?_
  refine zr_iload dL_law_1781 (rfl : 1781 + 2 = 1783) rfl ?_
  refine zr_icmp_eq (tgt := 1788) dL_law_1783 (by decide) (rfl : 1783 + 3 = 1786) (jI_eq (by omega) (by omega) (by omega) (by omega)) (fun _ => ?_) (fun h => ?_)
  · refine zr_iload dL_law_1788 (rfl : 1788 + 2 = 1790) rfl ?_
    refine zr_if_ne (tgt := 1805) dL_law_1790 (by decide) (rfl : 1790 + 3 = 1793) (jI_z (by omega) (by omega)) (fun _ => ?_) (fun hz => ?_)
    · refine zr_goto (tgt := 1863) dL_law_1805 (by decide) ?_
      exact hk _ _ _ _ _ _ _ _ _ _ _ _ hR'
    · refine zr_aload_n dL_law_1793 (rfl : 1793 + 1 = 1794) rfl ?_
      refine zr_iconst dL_law_1794 (rfl : 1794 + 1 = 1795) ?_
      refine zr_laldR dL_law_1795 (rfl : 1795 + 1 = 1796) lc_171 lc_in ?_
      rw [show f' (jI 0).toNatClampNeg = (jI v).toInt64 from hf hz]
      refine zr_iload dL_law_1796 (rfl : 1796 + 2 = 1798) rfl ?_
      refine zr_i2l dL_law_1798 (rfl : 1798 + 1 = 1799) ?_
      refine zr_lcmp dL_law_1799 (rfl : 1799 + 1 = 1800) ?_
      rw [lc_cmp]
      refine zr_if_eq (tgt := 1805) dL_law_1800 (by decide) (rfl : 1800 + 3 = 1803) (jI_z (by decide) (by decide)) (fun _ => ?_) (fun h => absurd rfl h)
      refine zr_goto (tgt := 1863) dL_law_1805 (by decide) ?_
      exact hk _ _ _ _ _ _ _ _ _ _ _ _ hR'
  · exact absurd rfl h
theorem case_drawnShare (hscr : zOld Γ 0 L xs) (hL : L ≤ 2048) (hi : 0 ≤ i ∧ i + 4 ≤ L) (hk : zHead Γ (d + 9) n kc ks 1863 i Q) : zHead Γ (d + 9) n (kc + 1) (ks + 6) 1808 i Q := by
  intro g B σ τ S ik th f o5 o6 o7 o8 hR
  have ok := hR.1
  have lk := hR.2.1
  have ck := hR.2.2.2.1
  have hx := s_drawnShare (Γ := Γ) (d := d + 4) (σ := σ) (τ := τ) (u := mw S σ.sc ik th σ.T σ.L (zw0 f)) (B := B) ok (jsz_r lk) (jdn_le ok lk)
  have hm := p_drawnShare (Γ := Γ) (d := d) (th := th) (w := bk 6 (B) (cr (σ) τ (zw0 f))) hR
  rw [← lc_comm] at hm
  refine zRun.less (Nat.le_add_right kc 1) (Nat.le_add_right ks 6) ?_
  refine zr_aload_n dL_law_1808 (rfl : 1808 + 1 = 1809) rfl ?_
  refine zr_fnV dL_law_1809 (rfl : 1809 + 3 = 1812) l_L_198 hx lc_5 rfl rfl rfl (Nat.le_of_ble_eq_true rfl) ?_
  refine zr_dstore (lv' := [_, _, _, _, _, _, _, _, _]) dL_law_1812 (rfl : 1812 + 2 = 1814) (Nat.le_of_ble_eq_true rfl) rfl ?_
  refine zr_aload_n dL_law_1814 (rfl : 1814 + 1 = 1815) rfl ?_
  refine zr_feV dL_law_1815 (rfl : 1815 + 3 = 1818) l_L_202 hm lc_167 rfl rfl rfl (Nat.le_of_ble_eq_true rfl) ?_
  rintro _ _ ⟨rfl, S', ik', hR', rfl⟩
  rw [← lc_comm]
  have hc := jck_sr (jsz_r lk) (jdn_le ok lk)
  unfold jck at hc
  simp only [Bool.and_eq_true] at hc
  have he : FP.dcmp (jsr B) (jsr B) = some .eq := of_decide_eq_true hc.1.2
  refine zr_dstore (lv' := [_, _, _, _, _, _, _, _, _]) dL_law_1818 (rfl : 1818 + 2 = 1820) (Nat.le_of_ble_eq_true rfl) rfl ?_
  refine zr_dload dL_law_1820 (rfl : 1820 + 2 = 1822) rfl ?_
  refine zr_dload dL_law_1822 (rfl : 1822 + 2 = 1824) rfl ?_
  refine zr_dcmp dL_law_1824 (rfl : 1824 + 1 = 1825) ?_
  rw [he, show Op.cmpValue (some .eq) .l = jI 0 from rfl]
  refine zr_if_eq (tgt := 1846) dL_law_1825 (by decide) (rfl : 1825 + 3 = 1828) (jI_z (by decide) (by decide)) (fun _ => ?_) (fun h => absurd rfl h)
  refine zr_goto (tgt := 1863) dL_law_1846 (by decide) ?_
  exact hk _ _ _ _ _ _ _ _ _ _ _ _ hR'
theorem case_digest (hscr : zOld Γ 0 L xs) (hL : L ≤ 2048) (hi : 0 ≤ i ∧ i + 4 ≤ L) (hk : zHead Γ (d + 9) n kc ks 1863 i Q) : zHead Γ (d + 9) n (kc + 1) (ks + 6) 1849 i Q := by
  intro g B σ τ S ik th f o5 o6 o7 o8 hR
  have ok := hR.1
  have lk := hR.2.1
  have ck := hR.2.2.2.1
  obtain ⟨τ2, hx⟩ := s_digest (Γ := Γ) (d := d + 1) (σ := σ) (τ := τ) (u := mw S σ.sc ik th σ.T σ.L (zw0 f)) (B := B) ck ok (jsz_r lk) (jdn_le ok lk)
  have hm := p_digest (Γ := Γ) (d := d) (th := th) (w := bk 6 (B) (cr (σ) τ2 (zw0 f))) hR
  rw [← lc_comm] at hm
  refine zRun.less (Nat.le_add_right kc 1) (Nat.le_add_right ks 6) ?_
  refine zr_aload_n dL_law_1849 (rfl : 1849 + 1 = 1850) rfl ?_
  refine zr_fnV dL_law_1850 (rfl : 1850 + 3 = 1853) l_L_203 hx lc_5 rfl rfl rfl (Nat.le_of_ble_eq_true rfl) ?_
  refine zr_aload_n dL_law_1853 (rfl : 1853 + 1 = 1854) rfl ?_
  refine zr_feV dL_law_1854 (rfl : 1854 + 3 = 1857) l_L_207 hm lc_167 rfl rfl rfl (Nat.le_of_ble_eq_true rfl) ?_
  rintro _ _ ⟨rfl, S', ik', hR', rfl⟩
  rw [← lc_comm]
  refine zr_lcmp dL_law_1857 (rfl : 1857 + 1 = 1858) ?_
  rw [lc_cmp]
  refine zr_if_eq (tgt := 1863) dL_law_1858 (by decide) (rfl : 1858 + 3 = 1861) (jI_z (by decide) (by decide)) (fun _ => ?_) (fun h => absurd rfl h)
  exact hk _ _ _ _ _ _ _ _ _ _ _ _ hR'
end CS
