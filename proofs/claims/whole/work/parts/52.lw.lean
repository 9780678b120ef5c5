-- ===== the law's loop
abbrev lvs (X : Cx) (b t : Nat) : Lv := [some (.ref b), some (rf X 19), some (rf X 0), some (.int (nI (8 * t)))]
def Nx (X : Cx) (K : KT) (b t pc : Nat) (g : Mem) : Prop := ∀ (σ : Sg) (Zm : Nat → Int32) (Fm : Nat → Nat → Int32) (Lm : Nat → Int64) (Z : Nat → Int32) (V : Nat → Int64) (P : Nat → Nat → Nat) (F : Nat → Nat → Int32) (Lb : Nat → Nat → Int64), MI Zm Fm σ → BI Z P F σ → K (MM X Zm Fm Lm (BB X Z V P F Lb g)) pc (lvs X b t) []
def Sc (K : KT) (b L : Nat) (xs : Nat → Int32) : Prop := (∀ (g : Mem) (pc : Nat) (vs : Lv) (st : List Value) (i : Int32), decode cL_law pc = .ok (.iaload, 1) → vp_in i L → K g (pc + 1) vs (.int (xs i.toNatClampNeg) :: st) → K g pc vs (.int i :: .ref b :: st)) ∧ ∀ (g : Mem) (pc : Nat) (vs : Lv) (st : List Value), decode cL_law pc = .ok (.arraylength, 1) → K g (pc + 1) vs (.int (nI L) :: st) → K g pc vs (.ref b :: st)
theorem nI_addn (a c : Nat) : nI a + nI c = nI (a + c) := by rw [jI_nat, jI_nat, jI_add, jI_nat]; rfl
section LAW
variable {X : Cx} {K : KT} {b L : Nat} {xs : Nat → Int32} {t : Nat} {g : Mem}
theorem lw_idx (hK : Cl X RL cL_law 4 10 K) (hS : Sc K b L xs) (hL : L ≤ 4096) {j pc : Nat} {vs : Lv} {st : List Value} (hj : 8 * t + j < L) (d : decode cL_law pc = .ok (.iaload, 1)) (h : K g (pc + 1) vs (.int (xs (8 * t + j)) :: st)) : K g pc vs (.int (nI (8 * t) + nI j) :: .ref b :: st) := by
  rw [nI_addn]
  refine hS.1 _ _ _ _ _ d (vp_in_nI hj (by omega)) ?_
  rw [nI_clamp (by omega)]
  exact h
theorem q_arg (hK : Cl X RL cL_law 4 10 K) (hS : Sc K b L xs) (hL : L ≤ 4096) (j : Nat) {pc : Nat} {n : Int} {st : List Value} (hj : 8 * t + j < L) (d1 : decode cL_law pc = .ok (.aload_n 0, 1)) (d2 : decode cL_law (pc + 1) = .ok (.iload_n 3, 1)) (d3 : decode cL_law (pc + 2) = .ok (.iconst n, 1)) (d4 : decode cL_law (pc + 3) = .ok (.iadd, 1)) (d5 : decode cL_law (pc + 4) = .ok (.iaload, 1)) (hn : Int32.ofInt n = nI j) (h : K g (pc + 5) (lvs X b t) (.int (xs (8 * t + j)) :: st)) : K g pc (lvs X b t) st :=
  q_aload_n hK 0 d1 rfl rfl (q_iload_n hK 3 d2 rfl rfl (q_iconst hK d3 hn (q_iadd hK d4 (lw_idx hK hS hL hj d5 h))))
theorem q_argB (hK : Cl X RL cL_law 4 10 K) (hS : Sc K b L xs) (hL : L ≤ 4096) (j : Nat) {pc : Nat} {n : Int} {st : List Value} (hj : 8 * t + j < L) (d1 : decode cL_law pc = .ok (.aload_n 0, 1)) (d2 : decode cL_law (pc + 1) = .ok (.iload_n 3, 1)) (d3 : decode cL_law (pc + 2) = .ok (.bipush n, 2)) (d4 : decode cL_law (pc + 4) = .ok (.iadd, 1)) (d5 : decode cL_law (pc + 5) = .ok (.iaload, 1)) (hn : (Int8.ofInt n).toInt32 = nI j) (h : K g (pc + 6) (lvs X b t) (.int (xs (8 * t + j)) :: st)) : K g pc (lvs X b t) st :=
  q_aload_n hK 0 d1 rfl rfl (q_iload_n hK 3 d2 rfl rfl (q_bipush hK d3 hn (q_iadd hK d4 (lw_idx hK hS hL hj d5 h))))
theorem lg_cmp_rfl (x : Int64) : lg_cmp x x = 0 := by simp [lg_cmp]
variable {σ : Sg} {Zm : Nat → Int32} {Fm : Nat → Nat → Int32} {Lm : Nat → Int64} {Z : Nat → Int32} {V : Nat → Int64} {P : Nat → Nat → Nat} {F : Nat → Nat → Int32} {Lb : Nat → Nat → Int64}
set_option maxRecDepth 10000 in
theorem lw_c0 (hK : Cl X RL cL_law 4 10 K) (hS : Sc K b L xs) (hL : L ≤ 4096) (ht : 8 * t + 8 ≤ L) (hM : MI Zm Fm σ) (hB : BI Z P F σ) (hn : Nx X K b t 1009 g) : K (MM X Zm Fm Lm (BB X Z V P F Lb g)) 160 (lvs X b t) [] := by
  refine q_aload_n hK 1 dL_law_160 rfl rfl ?_
  rw [MM_BB]
  refine q_callVi hK dL_law_161 lL_13 rfl (Nat.le_refl 10) (by decide) rfl (B_status hB (Q := fun v g9 => v = σ.1 ∧ g9 = BB X Z V P F Lb (MM X Zm Fm Lm g)) ⟨rfl, rfl⟩) rfl (by decide) (fun v g9 hq => ?_)
  obtain ⟨rfl, rfl⟩ := hq
  rw [← MM_BB]
  refine q_aload_n hK 2 dL_law_164 rfl rfl ?_
  refine q_callVi hK dL_law_165 lL_17 rfl (Nat.le_refl 10) (by decide) rfl (M_status hM (Q := fun v g9 => v = σ.1 ∧ g9 = MM X Zm Fm Lm (BB X Z V P F Lb g)) ⟨rfl, rfl⟩) rfl (Nat.le_of_ble_eq_true rfl) (fun v g9 hq => ?_)
  obtain ⟨rfl, rfl⟩ := hq
  exact q_icmp_eq hK 1009 dL_law_168 rfl (fun _ => hn _ _ _ _ _ _ _ _ _ hM hB) (fun h => absurd rfl h)
set_option maxRecDepth 10000 in
theorem lw_c1 (hK : Cl X RL cL_law 4 10 K) (hS : Sc K b L xs) (hL : L ≤ 4096) (ht : 8 * t + 8 ≤ L) (hM : MI Zm Fm σ) (hB : BI Z P F σ) (hn : Nx X K b t 1009 g) : K (MM X Zm Fm Lm (BB X Z V P F Lb g)) 173 (lvs X b t) [] := by
  refine q_aload_n hK 1 dL_law_173 rfl rfl ?_
  refine q_arg hK hS hL 1 (by omega) dL_law_174 dL_law_175 dL_law_176 dL_law_177 dL_law_178 rfl ?_
  refine q_arg hK hS hL 2 (by omega) dL_law_179 dL_law_180 dL_law_181 dL_law_182 dL_law_183 rfl ?_
  refine q_arg hK hS hL 3 (by omega) dL_law_184 dL_law_185 dL_law_186 dL_law_187 dL_law_188 rfl ?_
  refine q_arg hK hS hL 4 (by omega) dL_law_189 dL_law_190 dL_law_191 dL_law_192 dL_law_193 rfl ?_
  refine q_arg hK hS hL 5 (by omega) dL_law_194 dL_law_195 dL_law_196 dL_law_197 dL_law_198 rfl ?_
  refine q_argB hK hS hL 6 (by omega) dL_law_199 dL_law_200 dL_law_201 dL_law_203 dL_law_204 rfl ?_
  refine q_argB hK hS hL 7 (by omega) dL_law_205 dL_law_206 dL_law_207 dL_law_209 dL_law_210 rfl ?_
  rw [MM_BB]
  refine q_callVi hK dL_law_211 lL_18 rfl (Nat.le_refl 10) (by decide) rfl (B_set hB (Q := fun v g9 => v = (sp_set σ (xs (8 * t + 1)) (xs (8 * t + 2)) (xs (8 * t + 3)) (xs (8 * t + 4)) (xs (8 * t + 5)) (xs (8 * t + 6)) (xs (8 * t + 7))).1 ∧ ∃ Z' V' P' F' L', BI Z' P' F' (sp_set σ (xs (8 * t + 1)) (xs (8 * t + 2)) (xs (8 * t + 3)) (xs (8 * t + 4)) (xs (8 * t + 5)) (xs (8 * t + 6)) (xs (8 * t + 7))).2 ∧ g9 = BB X Z' V' P' F' L' (MM X Zm Fm Lm g)) (fun Z' V' P' F' L' h => ⟨rfl, Z', V', P', F', L', h, rfl⟩)) rfl (by decide) (fun v g9 hq => ?_)
  obtain ⟨rfl, Z', V', P', F', L', hB', rfl⟩ := hq
  rw [← MM_BB]
  refine q_aload_n hK 2 dL_law_214 rfl rfl ?_
  refine q_arg hK hS hL 1 (by omega) dL_law_215 dL_law_216 dL_law_217 dL_law_218 dL_law_219 rfl ?_
  refine q_arg hK hS hL 2 (by omega) dL_law_220 dL_law_221 dL_law_222 dL_law_223 dL_law_224 rfl ?_
  refine q_arg hK hS hL 3 (by omega) dL_law_225 dL_law_226 dL_law_227 dL_law_228 dL_law_229 rfl ?_
  refine q_arg hK hS hL 4 (by omega) dL_law_230 dL_law_231 dL_law_232 dL_law_233 dL_law_234 rfl ?_
  refine q_arg hK hS hL 5 (by omega) dL_law_235 dL_law_236 dL_law_237 dL_law_238 dL_law_239 rfl ?_
  refine q_argB hK hS hL 6 (by omega) dL_law_240 dL_law_241 dL_law_242 dL_law_244 dL_law_245 rfl ?_
  refine q_argB hK hS hL 7 (by omega) dL_law_246 dL_law_247 dL_law_248 dL_law_250 dL_law_251 rfl ?_
  refine q_callVi hK dL_law_252 lL_22 rfl (Nat.le_refl 10) (by decide) rfl (M_set hM (Q := fun v g9 => v = (sp_set σ (xs (8 * t + 1)) (xs (8 * t + 2)) (xs (8 * t + 3)) (xs (8 * t + 4)) (xs (8 * t + 5)) (xs (8 * t + 6)) (xs (8 * t + 7))).1 ∧ ∃ Z1 F1 L1, MI Z1 F1 (sp_set σ (xs (8 * t + 1)) (xs (8 * t + 2)) (xs (8 * t + 3)) (xs (8 * t + 4)) (xs (8 * t + 5)) (xs (8 * t + 6)) (xs (8 * t + 7))).2 ∧ g9 = MM X Z1 F1 L1 (BB X Z' V' P' F' L' g)) (fun Z1 F1 L1 h => ⟨rfl, Z1, F1, L1, h, rfl⟩)) rfl (Nat.le_of_ble_eq_true rfl) (fun v g9 hq => ?_)
  obtain ⟨rfl, Z1, F1, L1, hM', rfl⟩ := hq
  exact q_icmp_eq hK 1009 dL_law_255 rfl (fun _ => hn _ _ _ _ _ _ _ _ _ hM' hB') (fun h => absurd rfl h)
set_option maxRecDepth 10000 in
theorem lw_c2 (hK : Cl X RL cL_law 4 10 K) (hS : Sc K b L xs) (hL : L ≤ 4096) (ht : 8 * t + 8 ≤ L) (hM : MI Zm Fm σ) (hB : BI Z P F σ) (hn : Nx X K b t 1009 g) : K (MM X Zm Fm Lm (BB X Z V P F Lb g)) 260 (lvs X b t) [] := by
  refine q_aload_n hK 1 dL_law_260 rfl rfl ?_
  refine q_arg hK hS hL 1 (by omega) dL_law_261 dL_law_262 dL_law_263 dL_law_264 dL_law_265 rfl ?_
  refine q_arg hK hS hL 2 (by omega) dL_law_266 dL_law_267 dL_law_268 dL_law_269 dL_law_270 rfl ?_
  refine q_arg hK hS hL 3 (by omega) dL_law_271 dL_law_272 dL_law_273 dL_law_274 dL_law_275 rfl ?_
  rw [MM_BB]
  refine q_callVi hK dL_law_276 lL_23 rfl (Nat.le_refl 10) (by decide) rfl (B_ratio hB (Q := fun v g9 => v = (sp_ratio σ (xs (8 * t + 1)) (xs (8 * t + 2)) (xs (8 * t + 3))).1 ∧ ∃ Z' V' P' F' L', BI Z' P' F' (sp_ratio σ (xs (8 * t + 1)) (xs (8 * t + 2)) (xs (8 * t + 3))).2 ∧ g9 = BB X Z' V' P' F' L' (MM X Zm Fm Lm g)) (fun Z' V' P' F' L' h => ⟨rfl, Z', V', P', F', L', h, rfl⟩)) rfl (by decide) (fun v g9 hq => ?_)
  obtain ⟨rfl, Z', V', P', F', L', hB', rfl⟩ := hq
  rw [← MM_BB]
  refine q_aload_n hK 2 dL_law_279 rfl rfl ?_
  refine q_arg hK hS hL 1 (by omega) dL_law_280 dL_law_281 dL_law_282 dL_law_283 dL_law_284 rfl ?_
  refine q_arg hK hS hL 2 (by omega) dL_law_285 dL_law_286 dL_law_287 dL_law_288 dL_law_289 rfl ?_
  refine q_arg hK hS hL 3 (by omega) dL_law_290 dL_law_291 dL_law_292 dL_law_293 dL_law_294 rfl ?_
  refine q_callVi hK dL_law_295 lL_27 rfl (Nat.le_refl 10) (by decide) rfl (M_ratio hM (Q := fun v g9 => v = (sp_ratio σ (xs (8 * t + 1)) (xs (8 * t + 2)) (xs (8 * t + 3))).1 ∧ ∃ Z1 F1 L1, MI Z1 F1 (sp_ratio σ (xs (8 * t + 1)) (xs (8 * t + 2)) (xs (8 * t + 3))).2 ∧ g9 = MM X Z1 F1 L1 (BB X Z' V' P' F' L' g)) (fun Z1 F1 L1 h => ⟨rfl, Z1, F1, L1, h, rfl⟩)) rfl (Nat.le_of_ble_eq_true rfl) (fun v g9 hq => ?_)
  obtain ⟨rfl, Z1, F1, L1, hM', rfl⟩ := hq
  exact q_icmp_eq hK 1009 dL_law_298 rfl (fun _ => hn _ _ _ _ _ _ _ _ _ hM' hB') (fun h => absurd rfl h)
set_option maxRecDepth 10000 in
theorem lw_c3 (hK : Cl X RL cL_law 4 10 K) (hS : Sc K b L xs) (hL : L ≤ 4096) (ht : 8 * t + 8 ≤ L) (hM : MI Zm Fm σ) (hB : BI Z P F σ) (hn : Nx X K b t 1009 g) : K (MM X Zm Fm Lm (BB X Z V P F Lb g)) 303 (lvs X b t) [] := by
  refine q_aload_n hK 1 dL_law_303 rfl rfl ?_
  refine q_arg hK hS hL 1 (by omega) dL_law_304 dL_law_305 dL_law_306 dL_law_307 dL_law_308 rfl ?_
  refine q_arg hK hS hL 2 (by omega) dL_law_309 dL_law_310 dL_law_311 dL_law_312 dL_law_313 rfl ?_
  refine q_arg hK hS hL 3 (by omega) dL_law_314 dL_law_315 dL_law_316 dL_law_317 dL_law_318 rfl ?_
  refine q_arg hK hS hL 4 (by omega) dL_law_319 dL_law_320 dL_law_321 dL_law_322 dL_law_323 rfl ?_
  rw [MM_BB]
  refine q_callVi hK dL_law_324 lL_28 rfl (Nat.le_refl 10) (by decide) rfl (B_times hB (Q := fun v g9 => v = (sp_times σ (xs (8 * t + 1)) (xs (8 * t + 2)) (xs (8 * t + 3)) (xs (8 * t + 4))).1 ∧ ∃ Z' V' P' F' L', BI Z' P' F' (sp_times σ (xs (8 * t + 1)) (xs (8 * t + 2)) (xs (8 * t + 3)) (xs (8 * t + 4))).2 ∧ g9 = BB X Z' V' P' F' L' (MM X Zm Fm Lm g)) (fun Z' V' P' F' L' h => ⟨rfl, Z', V', P', F', L', h, rfl⟩)) rfl (by decide) (fun v g9 hq => ?_)
  obtain ⟨rfl, Z', V', P', F', L', hB', rfl⟩ := hq
  rw [← MM_BB]
  refine q_aload_n hK 2 dL_law_327 rfl rfl ?_
  refine q_arg hK hS hL 1 (by omega) dL_law_328 dL_law_329 dL_law_330 dL_law_331 dL_law_332 rfl ?_
  refine q_arg hK hS hL 2 (by omega) dL_law_333 dL_law_334 dL_law_335 dL_law_336 dL_law_337 rfl ?_
  refine q_arg hK hS hL 3 (by omega) dL_law_338 dL_law_339 dL_law_340 dL_law_341 dL_law_342 rfl ?_
  refine q_arg hK hS hL 4 (by omega) dL_law_343 dL_law_344 dL_law_345 dL_law_346 dL_law_347 rfl ?_
  refine q_callVi hK dL_law_348 lL_32 rfl (Nat.le_refl 10) (by decide) rfl (M_times hM (Q := fun v g9 => v = (sp_times σ (xs (8 * t + 1)) (xs (8 * t + 2)) (xs (8 * t + 3)) (xs (8 * t + 4))).1 ∧ ∃ Z1 F1 L1, MI Z1 F1 (sp_times σ (xs (8 * t + 1)) (xs (8 * t + 2)) (xs (8 * t + 3)) (xs (8 * t + 4))).2 ∧ g9 = MM X Z1 F1 L1 (BB X Z' V' P' F' L' g)) (fun Z1 F1 L1 h => ⟨rfl, Z1, F1, L1, h, rfl⟩)) rfl (Nat.le_of_ble_eq_true rfl) (fun v g9 hq => ?_)
  obtain ⟨rfl, Z1, F1, L1, hM', rfl⟩ := hq
  exact q_icmp_eq hK 1009 dL_law_351 rfl (fun _ => hn _ _ _ _ _ _ _ _ _ hM' hB') (fun h => absurd rfl h)
set_option maxRecDepth 10000 in
theorem lw_c4 (hK : Cl X RL cL_law 4 10 K) (hS : Sc K b L xs) (hL : L ≤ 4096) (ht : 8 * t + 8 ≤ L) (hM : MI Zm Fm σ) (hB : BI Z P F σ) (hn : Nx X K b t 1009 g) : K (MM X Zm Fm Lm (BB X Z V P F Lb g)) 356 (lvs X b t) [] := by
  refine q_aload_n hK 1 dL_law_356 rfl rfl ?_
  refine q_arg hK hS hL 1 (by omega) dL_law_357 dL_law_358 dL_law_359 dL_law_360 dL_law_361 rfl ?_
  refine q_arg hK hS hL 2 (by omega) dL_law_362 dL_law_363 dL_law_364 dL_law_365 dL_law_366 rfl ?_
  refine q_arg hK hS hL 3 (by omega) dL_law_367 dL_law_368 dL_law_369 dL_law_370 dL_law_371 rfl ?_
  rw [MM_BB]
  refine q_callVi hK dL_law_372 lL_33 rfl (Nat.le_refl 10) (by decide) rfl (B_fold hB (Q := fun v g9 => v = (sp_fold σ (xs (8 * t + 1)) (xs (8 * t + 2)) (xs (8 * t + 3))).1 ∧ ∃ Z' V' P' F' L', BI Z' P' F' (sp_fold σ (xs (8 * t + 1)) (xs (8 * t + 2)) (xs (8 * t + 3))).2 ∧ g9 = BB X Z' V' P' F' L' (MM X Zm Fm Lm g)) (fun Z' V' P' F' L' h => ⟨rfl, Z', V', P', F', L', h, rfl⟩)) rfl (by decide) (fun v g9 hq => ?_)
  obtain ⟨rfl, Z', V', P', F', L', hB', rfl⟩ := hq
  rw [← MM_BB]
  refine q_aload_n hK 2 dL_law_375 rfl rfl ?_
  refine q_arg hK hS hL 1 (by omega) dL_law_376 dL_law_377 dL_law_378 dL_law_379 dL_law_380 rfl ?_
  refine q_arg hK hS hL 2 (by omega) dL_law_381 dL_law_382 dL_law_383 dL_law_384 dL_law_385 rfl ?_
  refine q_arg hK hS hL 3 (by omega) dL_law_386 dL_law_387 dL_law_388 dL_law_389 dL_law_390 rfl ?_
  refine q_callVi hK dL_law_391 lL_36 rfl (Nat.le_refl 10) (by decide) rfl (M_fold hM (Q := fun v g9 => v = (sp_fold σ (xs (8 * t + 1)) (xs (8 * t + 2)) (xs (8 * t + 3))).1 ∧ ∃ Z1 F1 L1, MI Z1 F1 (sp_fold σ (xs (8 * t + 1)) (xs (8 * t + 2)) (xs (8 * t + 3))).2 ∧ g9 = MM X Z1 F1 L1 (BB X Z' V' P' F' L' g)) (fun Z1 F1 L1 h => ⟨rfl, Z1, F1, L1, h, rfl⟩)) rfl (Nat.le_of_ble_eq_true rfl) (fun v g9 hq => ?_)
  obtain ⟨rfl, Z1, F1, L1, hM', rfl⟩ := hq
  exact q_icmp_eq hK 1009 dL_law_394 rfl (fun _ => hn _ _ _ _ _ _ _ _ _ hM' hB') (fun h => absurd rfl h)
set_option maxRecDepth 10000 in
theorem lw_c5 (hK : Cl X RL cL_law 4 10 K) (hS : Sc K b L xs) (hL : L ≤ 4096) (ht : 8 * t + 8 ≤ L) (hM : MI Zm Fm σ) (hB : BI Z P F σ) (hn : Nx X K b t 1009 g) : K (MM X Zm Fm Lm (BB X Z V P F Lb g)) 399 (lvs X b t) [] := by
  refine q_aload_n hK 1 dL_law_399 rfl rfl ?_
  refine q_arg hK hS hL 1 (by omega) dL_law_400 dL_law_401 dL_law_402 dL_law_403 dL_law_404 rfl ?_
  rw [MM_BB]
  refine q_callVi hK dL_law_405 lL_37 rfl (Nat.le_refl 10) (by decide) rfl (B_drop hB (Q := fun v g9 => v = (sp_drop σ (xs (8 * t + 1))).1 ∧ ∃ Z' V' P' F' L', BI Z' P' F' (sp_drop σ (xs (8 * t + 1))).2 ∧ g9 = BB X Z' V' P' F' L' (MM X Zm Fm Lm g)) (fun Z' V' P' F' L' h => ⟨rfl, Z', V', P', F', L', h, rfl⟩)) rfl (by decide) (fun v g9 hq => ?_)
  obtain ⟨rfl, Z', V', P', F', L', hB', rfl⟩ := hq
  rw [← MM_BB]
  refine q_aload_n hK 2 dL_law_408 rfl rfl ?_
  refine q_arg hK hS hL 1 (by omega) dL_law_409 dL_law_410 dL_law_411 dL_law_412 dL_law_413 rfl ?_
  refine q_callVi hK dL_law_414 lL_41 rfl (Nat.le_refl 10) (by decide) rfl (M_drop hM (Q := fun v g9 => v = (sp_drop σ (xs (8 * t + 1))).1 ∧ ∃ Z1 F1 L1, MI Z1 F1 (sp_drop σ (xs (8 * t + 1))).2 ∧ g9 = MM X Z1 F1 L1 (BB X Z' V' P' F' L' g)) (fun Z1 F1 L1 h => ⟨rfl, Z1, F1, L1, h, rfl⟩)) rfl (Nat.le_of_ble_eq_true rfl) (fun v g9 hq => ?_)
  obtain ⟨rfl, Z1, F1, L1, hM', rfl⟩ := hq
  exact q_icmp_eq hK 1009 dL_law_417 rfl (fun _ => hn _ _ _ _ _ _ _ _ _ hM' hB') (fun h => absurd rfl h)
set_option maxRecDepth 10000 in
theorem lw_c6 (hK : Cl X RL cL_law 4 10 K) (hS : Sc K b L xs) (hL : L ≤ 4096) (ht : 8 * t + 8 ≤ L) (hM : MI Zm Fm σ) (hB : BI Z P F σ) (hn : Nx X K b t 1009 g) : K (MM X Zm Fm Lm (BB X Z V P F Lb g)) 422 (lvs X b t) [] := by
  refine q_aload_n hK 1 dL_law_422 rfl rfl ?_
  refine q_arg hK hS hL 1 (by omega) dL_law_423 dL_law_424 dL_law_425 dL_law_426 dL_law_427 rfl ?_
  refine q_arg hK hS hL 2 (by omega) dL_law_428 dL_law_429 dL_law_430 dL_law_431 dL_law_432 rfl ?_
  rw [MM_BB]
  refine q_callVi hK dL_law_433 lL_42 rfl (Nat.le_refl 10) (by decide) rfl (B_exponent hB (Q := fun v g9 => v = (sp_exponent σ (xs (8 * t + 1)) (xs (8 * t + 2))).1 ∧ ∃ Z' V' P' F' L', BI Z' P' F' (sp_exponent σ (xs (8 * t + 1)) (xs (8 * t + 2))).2 ∧ g9 = BB X Z' V' P' F' L' (MM X Zm Fm Lm g)) (fun Z' V' P' F' L' h => ⟨rfl, Z', V', P', F', L', h, rfl⟩)) rfl (by decide) (fun v g9 hq => ?_)
  obtain ⟨rfl, Z', V', P', F', L', hB', rfl⟩ := hq
  rw [← MM_BB]
  refine q_aload_n hK 2 dL_law_436 rfl rfl ?_
  refine q_arg hK hS hL 1 (by omega) dL_law_437 dL_law_438 dL_law_439 dL_law_440 dL_law_441 rfl ?_
  refine q_arg hK hS hL 2 (by omega) dL_law_442 dL_law_443 dL_law_444 dL_law_445 dL_law_446 rfl ?_
  refine q_callVi hK dL_law_447 lL_46 rfl (Nat.le_refl 10) (by decide) rfl (M_exponent hM (Q := fun v g9 => v = (sp_exponent σ (xs (8 * t + 1)) (xs (8 * t + 2))).1 ∧ ∃ Z1 F1 L1, MI Z1 F1 (sp_exponent σ (xs (8 * t + 1)) (xs (8 * t + 2))).2 ∧ g9 = MM X Z1 F1 L1 (BB X Z' V' P' F' L' g)) (fun Z1 F1 L1 h => ⟨rfl, Z1, F1, L1, h, rfl⟩)) rfl (Nat.le_of_ble_eq_true rfl) (fun v g9 hq => ?_)
  obtain ⟨rfl, Z1, F1, L1, hM', rfl⟩ := hq
  exact q_icmp_eq hK 1009 dL_law_450 rfl (fun _ => hn _ _ _ _ _ _ _ _ _ hM' hB') (fun h => absurd rfl h)
set_option maxRecDepth 10000 in
theorem lw_c7 (hK : Cl X RL cL_law 4 10 K) (hS : Sc K b L xs) (hL : L ≤ 4096) (ht : 8 * t + 8 ≤ L) (hM : MI Zm Fm σ) (hB : BI Z P F σ) (hn : Nx X K b t 1009 g) : K (MM X Zm Fm Lm (BB X Z V P F Lb g)) 455 (lvs X b t) [] := by
  refine q_aload_n hK 1 dL_law_455 rfl rfl ?_
  refine q_arg hK hS hL 1 (by omega) dL_law_456 dL_law_457 dL_law_458 dL_law_459 dL_law_460 rfl ?_
  refine q_arg hK hS hL 2 (by omega) dL_law_461 dL_law_462 dL_law_463 dL_law_464 dL_law_465 rfl ?_
  rw [MM_BB]
  refine q_callVi hK dL_law_466 lL_47 rfl (Nat.le_refl 10) (by decide) rfl (B_order hB (Q := fun v g9 => v = (sp_order σ (xs (8 * t + 1)) (xs (8 * t + 2))).1 ∧ ∃ Z' V' P' F' L', BI Z' P' F' (sp_order σ (xs (8 * t + 1)) (xs (8 * t + 2))).2 ∧ g9 = BB X Z' V' P' F' L' (MM X Zm Fm Lm g)) (fun Z' V' P' F' L' h => ⟨rfl, Z', V', P', F', L', h, rfl⟩)) rfl (by decide) (fun v g9 hq => ?_)
  obtain ⟨rfl, Z', V', P', F', L', hB', rfl⟩ := hq
  rw [← MM_BB]
  refine q_aload_n hK 2 dL_law_469 rfl rfl ?_
  refine q_arg hK hS hL 1 (by omega) dL_law_470 dL_law_471 dL_law_472 dL_law_473 dL_law_474 rfl ?_
  refine q_arg hK hS hL 2 (by omega) dL_law_475 dL_law_476 dL_law_477 dL_law_478 dL_law_479 rfl ?_
  refine q_callVi hK dL_law_480 lL_50 rfl (Nat.le_refl 10) (by decide) rfl (M_order hM (Q := fun v g9 => v = (sp_order σ (xs (8 * t + 1)) (xs (8 * t + 2))).1 ∧ ∃ Z1 F1 L1, MI Z1 F1 (sp_order σ (xs (8 * t + 1)) (xs (8 * t + 2))).2 ∧ g9 = MM X Z1 F1 L1 (BB X Z' V' P' F' L' g)) (fun Z1 F1 L1 h => ⟨rfl, Z1, F1, L1, h, rfl⟩)) rfl (Nat.le_of_ble_eq_true rfl) (fun v g9 hq => ?_)
  obtain ⟨rfl, Z1, F1, L1, hM', rfl⟩ := hq
  exact q_icmp_eq hK 1009 dL_law_483 rfl (fun _ => hn _ _ _ _ _ _ _ _ _ hM' hB') (fun h => absurd rfl h)
set_option maxRecDepth 10000 in
theorem lw_c8 (hK : Cl X RL cL_law 4 10 K) (hS : Sc K b L xs) (hL : L ≤ 4096) (ht : 8 * t + 8 ≤ L) (hM : MI Zm Fm σ) (hB : BI Z P F σ) (hn : Nx X K b t 1009 g) : K (MM X Zm Fm Lm (BB X Z V P F Lb g)) 488 (lvs X b t) [] := by
  refine q_aload_n hK 1 dL_law_488 rfl rfl ?_
  refine q_arg hK hS hL 1 (by omega) dL_law_489 dL_law_490 dL_law_491 dL_law_492 dL_law_493 rfl ?_
  rw [MM_BB]
  refine q_callVi hK dL_law_494 lL_51 rfl (Nat.le_refl 10) (by decide) rfl (B_show hB (Q := fun v g9 => v = (sp_show σ (xs (8 * t + 1))).1 ∧ ∃ Z' V' P' F' L', BI Z' P' F' (sp_show σ (xs (8 * t + 1))).2 ∧ g9 = BB X Z' V' P' F' L' (MM X Zm Fm Lm g)) (fun Z' V' P' F' L' h => ⟨rfl, Z', V', P', F', L', h, rfl⟩)) rfl (by decide) (fun v g9 hq => ?_)
  obtain ⟨rfl, Z', V', P', F', L', hB', rfl⟩ := hq
  rw [← MM_BB]
  refine q_aload_n hK 2 dL_law_497 rfl rfl ?_
  refine q_arg hK hS hL 1 (by omega) dL_law_498 dL_law_499 dL_law_500 dL_law_501 dL_law_502 rfl ?_
  refine q_callVi hK dL_law_503 lL_55 rfl (Nat.le_refl 10) (by decide) rfl (M_show hM (Q := fun v g9 => v = (sp_show σ (xs (8 * t + 1))).1 ∧ ∃ Z1 F1 L1, MI Z1 F1 (sp_show σ (xs (8 * t + 1))).2 ∧ g9 = MM X Z1 F1 L1 (BB X Z' V' P' F' L' g)) (fun Z1 F1 L1 h => ⟨rfl, Z1, F1, L1, h, rfl⟩)) rfl (Nat.le_of_ble_eq_true rfl) (fun v g9 hq => ?_)
  obtain ⟨rfl, Z1, F1, L1, hM', rfl⟩ := hq
  exact q_icmp_eq hK 1009 dL_law_506 rfl (fun _ => hn _ _ _ _ _ _ _ _ _ hM' hB') (fun h => absurd rfl h)
set_option maxRecDepth 10000 in
theorem lw_c9 (hK : Cl X RL cL_law 4 10 K) (hS : Sc K b L xs) (hL : L ≤ 4096) (ht : 8 * t + 8 ≤ L) (hM : MI Zm Fm σ) (hB : BI Z P F σ) (hn : Nx X K b t 1009 g) : K (MM X Zm Fm Lm (BB X Z V P F Lb g)) 511 (lvs X b t) [] := by
  refine q_aload_n hK 1 dL_law_511 rfl rfl ?_
  refine q_arg hK hS hL 1 (by omega) dL_law_512 dL_law_513 dL_law_514 dL_law_515 dL_law_516 rfl ?_
  rw [MM_BB]
  refine q_callVi hK dL_law_517 lL_56 rfl (Nat.le_refl 10) (by decide) rfl (B_out hB (Q := fun v g9 => v = (sp_out σ (xs (8 * t + 1))) ∧ g9 = BB X Z V P F Lb (MM X Zm Fm Lm g)) ⟨rfl, rfl⟩) rfl (by decide) (fun v g9 hq => ?_)
  obtain ⟨rfl, rfl⟩ := hq
  rw [← MM_BB]
  refine q_aload_n hK 2 dL_law_520 rfl rfl ?_
  refine q_arg hK hS hL 1 (by omega) dL_law_521 dL_law_522 dL_law_523 dL_law_524 dL_law_525 rfl ?_
  refine q_callVi hK dL_law_526 lL_59 rfl (Nat.le_refl 10) (by decide) rfl (M_out hM (Q := fun v g9 => v = (sp_out σ (xs (8 * t + 1))) ∧ g9 = MM X Zm Fm Lm (BB X Z V P F Lb g)) ⟨rfl, rfl⟩) rfl (Nat.le_of_ble_eq_true rfl) (fun v g9 hq => ?_)
  obtain ⟨rfl, rfl⟩ := hq
  exact q_icmp_eq hK 1009 dL_law_529 rfl (fun _ => hn _ _ _ _ _ _ _ _ _ hM hB) (fun h => absurd rfl h)
set_option maxRecDepth 10000 in
theorem lw_c10 (hK : Cl X RL cL_law 4 10 K) (hS : Sc K b L xs) (hL : L ≤ 4096) (ht : 8 * t + 8 ≤ L) (hM : MI Zm Fm σ) (hB : BI Z P F σ) (hn : Nx X K b t 1009 g) : K (MM X Zm Fm Lm (BB X Z V P F Lb g)) 534 (lvs X b t) [] := by
  refine q_aload_n hK 1 dL_law_534 rfl rfl ?_
  refine q_arg hK hS hL 1 (by omega) dL_law_535 dL_law_536 dL_law_537 dL_law_538 dL_law_539 rfl ?_
  refine q_arg hK hS hL 2 (by omega) dL_law_540 dL_law_541 dL_law_542 dL_law_543 dL_law_544 rfl ?_
  rw [MM_BB]
  refine q_callVi hK dL_law_545 lL_60 rfl (Nat.le_refl 10) (by decide) rfl (B_map hB (Q := fun v g9 => v = (sp_map σ (xs (8 * t + 1)) (xs (8 * t + 2))).1 ∧ ∃ Z' V' P' F' L', BI Z' P' F' (sp_map σ (xs (8 * t + 1)) (xs (8 * t + 2))).2 ∧ g9 = BB X Z' V' P' F' L' (MM X Zm Fm Lm g)) (fun Z' V' P' F' L' h => ⟨rfl, Z', V', P', F', L', h, rfl⟩)) rfl (by decide) (fun v g9 hq => ?_)
  obtain ⟨rfl, Z', V', P', F', L', hB', rfl⟩ := hq
  rw [← MM_BB]
  refine q_aload_n hK 2 dL_law_548 rfl rfl ?_
  refine q_arg hK hS hL 1 (by omega) dL_law_549 dL_law_550 dL_law_551 dL_law_552 dL_law_553 rfl ?_
  refine q_arg hK hS hL 2 (by omega) dL_law_554 dL_law_555 dL_law_556 dL_law_557 dL_law_558 rfl ?_
  refine q_callVi hK dL_law_559 lL_63 rfl (Nat.le_refl 10) (by decide) rfl (M_map hM (Q := fun v g9 => v = (sp_map σ (xs (8 * t + 1)) (xs (8 * t + 2))).1 ∧ ∃ Z1 F1 L1, MI Z1 F1 (sp_map σ (xs (8 * t + 1)) (xs (8 * t + 2))).2 ∧ g9 = MM X Z1 F1 L1 (BB X Z' V' P' F' L' g)) (fun Z1 F1 L1 h => ⟨rfl, Z1, F1, L1, h, rfl⟩)) rfl (Nat.le_of_ble_eq_true rfl) (fun v g9 hq => ?_)
  obtain ⟨rfl, Z1, F1, L1, hM', rfl⟩ := hq
  exact q_icmp_eq hK 1009 dL_law_562 rfl (fun _ => hn _ _ _ _ _ _ _ _ _ hM' hB') (fun h => absurd rfl h)
set_option maxRecDepth 10000 in
theorem lw_c11 (hK : Cl X RL cL_law 4 10 K) (hS : Sc K b L xs) (hL : L ≤ 4096) (ht : 8 * t + 8 ≤ L) (hM : MI Zm Fm σ) (hB : BI Z P F σ) (hn : Nx X K b t 1009 g) : K (MM X Zm Fm Lm (BB X Z V P F Lb g)) 567 (lvs X b t) [] := by
  refine q_aload_n hK 1 dL_law_567 rfl rfl ?_
  refine q_arg hK hS hL 1 (by omega) dL_law_568 dL_law_569 dL_law_570 dL_law_571 dL_law_572 rfl ?_
  refine q_arg hK hS hL 2 (by omega) dL_law_573 dL_law_574 dL_law_575 dL_law_576 dL_law_577 rfl ?_
  rw [MM_BB]
  refine q_callVi hK dL_law_578 lL_64 rfl (Nat.le_refl 10) (by decide) rfl (B_steps hB (Q := fun v g9 => v = (sp_steps σ (xs (8 * t + 1)) (xs (8 * t + 2))).1 ∧ ∃ Z' V' P' F' L', BI Z' P' F' (sp_steps σ (xs (8 * t + 1)) (xs (8 * t + 2))).2 ∧ g9 = BB X Z' V' P' F' L' (MM X Zm Fm Lm g)) (fun Z' V' P' F' L' h => ⟨rfl, Z', V', P', F', L', h, rfl⟩)) rfl (by decide) (fun v g9 hq => ?_)
  obtain ⟨rfl, Z', V', P', F', L', hB', rfl⟩ := hq
  rw [← MM_BB]
  refine q_aload_n hK 2 dL_law_581 rfl rfl ?_
  refine q_arg hK hS hL 1 (by omega) dL_law_582 dL_law_583 dL_law_584 dL_law_585 dL_law_586 rfl ?_
  refine q_arg hK hS hL 2 (by omega) dL_law_587 dL_law_588 dL_law_589 dL_law_590 dL_law_591 rfl ?_
  refine q_callVi hK dL_law_592 lL_67 rfl (Nat.le_refl 10) (by decide) rfl (M_steps hM (Q := fun v g9 => v = (sp_steps σ (xs (8 * t + 1)) (xs (8 * t + 2))).1 ∧ ∃ Z1 F1 L1, MI Z1 F1 (sp_steps σ (xs (8 * t + 1)) (xs (8 * t + 2))).2 ∧ g9 = MM X Z1 F1 L1 (BB X Z' V' P' F' L' g)) (fun Z1 F1 L1 h => ⟨rfl, Z1, F1, L1, h, rfl⟩)) rfl (Nat.le_of_ble_eq_true rfl) (fun v g9 hq => ?_)
  obtain ⟨rfl, Z1, F1, L1, hM', rfl⟩ := hq
  exact q_icmp_eq hK 1009 dL_law_595 rfl (fun _ => hn _ _ _ _ _ _ _ _ _ hM' hB') (fun h => absurd rfl h)
set_option maxRecDepth 10000 in
theorem lw_c12 (hK : Cl X RL cL_law 4 10 K) (hS : Sc K b L xs) (hL : L ≤ 4096) (ht : 8 * t + 8 ≤ L) (hM : MI Zm Fm σ) (hB : BI Z P F σ) (hn : Nx X K b t 1009 g) : K (MM X Zm Fm Lm (BB X Z V P F Lb g)) 600 (lvs X b t) [] := by
  refine q_aload_n hK 1 dL_law_600 rfl rfl ?_
  refine q_arg hK hS hL 1 (by omega) dL_law_601 dL_law_602 dL_law_603 dL_law_604 dL_law_605 rfl ?_
  rw [MM_BB]
  refine q_callVi hK dL_law_606 lL_68 rfl (Nat.le_refl 10) (by decide) rfl (B_comma hB (Q := fun v g9 => v = (sp_comma σ (xs (8 * t + 1))).1 ∧ ∃ Z' V' P' F' L', BI Z' P' F' (sp_comma σ (xs (8 * t + 1))).2 ∧ g9 = BB X Z' V' P' F' L' (MM X Zm Fm Lm g)) (fun Z' V' P' F' L' h => ⟨rfl, Z', V', P', F', L', h, rfl⟩)) rfl (by decide) (fun v g9 hq => ?_)
  obtain ⟨rfl, Z', V', P', F', L', hB', rfl⟩ := hq
  rw [← MM_BB]
  refine q_aload_n hK 2 dL_law_609 rfl rfl ?_
  refine q_arg hK hS hL 1 (by omega) dL_law_610 dL_law_611 dL_law_612 dL_law_613 dL_law_614 rfl ?_
  refine q_callVi hK dL_law_615 lL_71 rfl (Nat.le_refl 10) (by decide) rfl (M_comma hM (Q := fun v g9 => v = (sp_comma σ (xs (8 * t + 1))).1 ∧ ∃ Z1 F1 L1, MI Z1 F1 (sp_comma σ (xs (8 * t + 1))).2 ∧ g9 = MM X Z1 F1 L1 (BB X Z' V' P' F' L' g)) (fun Z1 F1 L1 h => ⟨rfl, Z1, F1, L1, h, rfl⟩)) rfl (Nat.le_of_ble_eq_true rfl) (fun v g9 hq => ?_)
  obtain ⟨rfl, Z1, F1, L1, hM', rfl⟩ := hq
  exact q_icmp_eq hK 1009 dL_law_618 rfl (fun _ => hn _ _ _ _ _ _ _ _ _ hM' hB') (fun h => absurd rfl h)
set_option maxRecDepth 10000 in
theorem lw_c13 (hK : Cl X RL cL_law 4 10 K) (hS : Sc K b L xs) (hL : L ≤ 4096) (ht : 8 * t + 8 ≤ L) (hM : MI Zm Fm σ) (hB : BI Z P F σ) (hn : Nx X K b t 1009 g) : K (MM X Zm Fm Lm (BB X Z V P F Lb g)) 623 (lvs X b t) [] := by
  refine q_aload_n hK 1 dL_law_623 rfl rfl ?_
  rw [MM_BB]
  refine q_callVi hK dL_law_624 lL_72 rfl (Nat.le_refl 10) (by decide) rfl (B_clear hB (Q := fun v g9 => v = (sp_clear σ ).1 ∧ ∃ Z' V' P' F' L', BI Z' P' F' (sp_clear σ ).2 ∧ g9 = BB X Z' V' P' F' L' (MM X Zm Fm Lm g)) (fun Z' V' P' F' L' h => ⟨rfl, Z', V', P', F', L', h, rfl⟩)) rfl (by decide) (fun v g9 hq => ?_)
  obtain ⟨rfl, Z', V', P', F', L', hB', rfl⟩ := hq
  rw [← MM_BB]
  refine q_aload_n hK 2 dL_law_627 rfl rfl ?_
  refine q_callVi hK dL_law_628 lL_75 rfl (Nat.le_refl 10) (by decide) rfl (M_clear hM (Q := fun v g9 => v = (sp_clear σ ).1 ∧ ∃ Z1 F1 L1, MI Z1 F1 (sp_clear σ ).2 ∧ g9 = MM X Z1 F1 L1 (BB X Z' V' P' F' L' g)) (fun Z1 F1 L1 h => ⟨rfl, Z1, F1, L1, h, rfl⟩)) rfl (Nat.le_of_ble_eq_true rfl) (fun v g9 hq => ?_)
  obtain ⟨rfl, Z1, F1, L1, hM', rfl⟩ := hq
  exact q_icmp_eq hK 1009 dL_law_631 rfl (fun _ => hn _ _ _ _ _ _ _ _ _ hM' hB') (fun h => absurd rfl h)
set_option maxRecDepth 10000 in
theorem lw_c14 (hK : Cl X RL cL_law 4 10 K) (hS : Sc K b L xs) (hL : L ≤ 4096) (ht : 8 * t + 8 ≤ L) (hM : MI Zm Fm σ) (hB : BI Z P F σ) (hn : Nx X K b t 1009 g) : K (MM X Zm Fm Lm (BB X Z V P F Lb g)) 636 (lvs X b t) [] := by
  refine q_aload_n hK 1 dL_law_636 rfl rfl ?_
  rw [MM_BB]
  refine q_callVi hK dL_law_637 lL_76 rfl (Nat.le_refl 10) (by decide) rfl (B_rank hB (Q := fun v g9 => v = (sp_rank σ ).1 ∧ ∃ Z' V' P' F' L', BI Z' P' F' (sp_rank σ ).2 ∧ g9 = BB X Z' V' P' F' L' (MM X Zm Fm Lm g)) (fun Z' V' P' F' L' h => ⟨rfl, Z', V', P', F', L', h, rfl⟩)) rfl (by decide) (fun v g9 hq => ?_)
  obtain ⟨rfl, Z', V', P', F', L', hB', rfl⟩ := hq
  rw [← MM_BB]
  refine q_aload_n hK 2 dL_law_640 rfl rfl ?_
  refine q_callVi hK dL_law_641 lL_79 rfl (Nat.le_refl 10) (by decide) rfl (M_rank hM (Q := fun v g9 => v = (sp_rank σ ).1 ∧ ∃ Z1 F1 L1, MI Z1 F1 (sp_rank σ ).2 ∧ g9 = MM X Z1 F1 L1 (BB X Z' V' P' F' L' g)) (fun Z1 F1 L1 h => ⟨rfl, Z1, F1, L1, h, rfl⟩)) rfl (Nat.le_of_ble_eq_true rfl) (fun v g9 hq => ?_)
  obtain ⟨rfl, Z1, F1, L1, hM', rfl⟩ := hq
  exact q_icmp_eq hK 1009 dL_law_644 rfl (fun _ => hn _ _ _ _ _ _ _ _ _ hM' hB') (fun h => absurd rfl h)
set_option maxRecDepth 10000 in
theorem lw_c15 (hK : Cl X RL cL_law 4 10 K) (hS : Sc K b L xs) (hL : L ≤ 4096) (ht : 8 * t + 8 ≤ L) (hM : MI Zm Fm σ) (hB : BI Z P F σ) (hn : Nx X K b t 1009 g) : K (MM X Zm Fm Lm (BB X Z V P F Lb g)) 649 (lvs X b t) [] := by
  refine q_aload_n hK 1 dL_law_649 rfl rfl ?_
  rw [MM_BB]
  refine q_callVl hK dL_law_650 lL_80 rfl (Nat.le_refl 10) (by decide) rfl (B_twist hB (Q := fun v g9 => v = (sp_twist σ ).1 ∧ ∃ Z' V' P' F' L', BI Z' P' F' (sp_twist σ ).2 ∧ g9 = BB X Z' V' P' F' L' (MM X Zm Fm Lm g)) (fun Z' V' P' F' L' h => ⟨rfl, Z', V', P', F', L', h, rfl⟩)) rfl (by decide) (fun v g9 hq => ?_)
  obtain ⟨rfl, Z', V', P', F', L', hB', rfl⟩ := hq
  rw [← MM_BB]
  refine q_aload_n hK 2 dL_law_653 rfl rfl ?_
  refine q_callVl hK dL_law_654 lL_84 rfl (Nat.le_refl 10) (by decide) rfl (M_twist hM (Q := fun v g9 => v = (sp_twist σ ).1 ∧ ∃ Z1 F1 L1, MI Z1 F1 (sp_twist σ ).2 ∧ g9 = MM X Z1 F1 L1 (BB X Z' V' P' F' L' g)) (fun Z1 F1 L1 h => ⟨rfl, Z1, F1, L1, h, rfl⟩)) rfl (Nat.le_of_ble_eq_true rfl) (fun v g9 hq => ?_)
  obtain ⟨rfl, Z1, F1, L1, hM', rfl⟩ := hq
  refine q_lcmp hK dL_law_657 ?_
  exact q_if_eq hK 1009 dL_law_658 rfl (fun _ => hn _ _ _ _ _ _ _ _ _ hM' hB') (fun h => absurd (lg_cmp_rfl _) h)
set_option maxRecDepth 10000 in
theorem lw_c16 (hK : Cl X RL cL_law 4 10 K) (hS : Sc K b L xs) (hL : L ≤ 4096) (ht : 8 * t + 8 ≤ L) (hM : MI Zm Fm σ) (hB : BI Z P F σ) (hn : Nx X K b t 1009 g) : K (MM X Zm Fm Lm (BB X Z V P F Lb g)) 663 (lvs X b t) [] := by
  refine q_aload_n hK 1 dL_law_663 rfl rfl ?_
  refine q_arg hK hS hL 1 (by omega) dL_law_664 dL_law_665 dL_law_666 dL_law_667 dL_law_668 rfl ?_
  rw [MM_BB]
  refine q_callVi hK dL_law_669 lL_85 rfl (Nat.le_refl 10) (by decide) rfl (B_vanishes hB (Q := fun v g9 => v = (sp_vanishes σ (xs (8 * t + 1))).1 ∧ ∃ Z' V' P' F' L', BI Z' P' F' (sp_vanishes σ (xs (8 * t + 1))).2 ∧ g9 = BB X Z' V' P' F' L' (MM X Zm Fm Lm g)) (fun Z' V' P' F' L' h => ⟨rfl, Z', V', P', F', L', h, rfl⟩)) rfl (by decide) (fun v g9 hq => ?_)
  obtain ⟨rfl, Z', V', P', F', L', hB', rfl⟩ := hq
  rw [← MM_BB]
  refine q_aload_n hK 2 dL_law_672 rfl rfl ?_
  refine q_arg hK hS hL 1 (by omega) dL_law_673 dL_law_674 dL_law_675 dL_law_676 dL_law_677 rfl ?_
  refine q_callVi hK dL_law_678 lL_88 rfl (Nat.le_refl 10) (by decide) rfl (M_vanishes hM (Q := fun v g9 => v = (sp_vanishes σ (xs (8 * t + 1))).1 ∧ ∃ Z1 F1 L1, MI Z1 F1 (sp_vanishes σ (xs (8 * t + 1))).2 ∧ g9 = MM X Z1 F1 L1 (BB X Z' V' P' F' L' g)) (fun Z1 F1 L1 h => ⟨rfl, Z1, F1, L1, h, rfl⟩)) rfl (Nat.le_of_ble_eq_true rfl) (fun v g9 hq => ?_)
  obtain ⟨rfl, Z1, F1, L1, hM', rfl⟩ := hq
  exact q_icmp_eq hK 1009 dL_law_681 rfl (fun _ => hn _ _ _ _ _ _ _ _ _ hM' hB') (fun h => absurd rfl h)
set_option maxRecDepth 10000 in
theorem lw_c17 (hK : Cl X RL cL_law 4 10 K) (hS : Sc K b L xs) (hL : L ≤ 4096) (ht : 8 * t + 8 ≤ L) (hM : MI Zm Fm σ) (hB : BI Z P F σ) (hn : Nx X K b t 1009 g) : K (MM X Zm Fm Lm (BB X Z V P F Lb g)) 686 (lvs X b t) [] := by
  refine q_aload_n hK 1 dL_law_686 rfl rfl ?_
  refine q_arg hK hS hL 1 (by omega) dL_law_687 dL_law_688 dL_law_689 dL_law_690 dL_law_691 rfl ?_
  rw [MM_BB]
  refine q_callVi hK dL_law_692 lL_89 rfl (Nat.le_refl 10) (by decide) rfl (B_supports hB (Q := fun v g9 => v = (sp_supports σ (xs (8 * t + 1))).1 ∧ ∃ Z' V' P' F' L', BI Z' P' F' (sp_supports σ (xs (8 * t + 1))).2 ∧ g9 = BB X Z' V' P' F' L' (MM X Zm Fm Lm g)) (fun Z' V' P' F' L' h => ⟨rfl, Z', V', P', F', L', h, rfl⟩)) rfl (by decide) (fun v g9 hq => ?_)
  obtain ⟨rfl, Z', V', P', F', L', hB', rfl⟩ := hq
  rw [← MM_BB]
  refine q_aload_n hK 2 dL_law_695 rfl rfl ?_
  refine q_arg hK hS hL 1 (by omega) dL_law_696 dL_law_697 dL_law_698 dL_law_699 dL_law_700 rfl ?_
  refine q_callVi hK dL_law_701 lL_92 rfl (Nat.le_refl 10) (by decide) rfl (M_supports hM (Q := fun v g9 => v = (sp_supports σ (xs (8 * t + 1))).1 ∧ ∃ Z1 F1 L1, MI Z1 F1 (sp_supports σ (xs (8 * t + 1))).2 ∧ g9 = MM X Z1 F1 L1 (BB X Z' V' P' F' L' g)) (fun Z1 F1 L1 h => ⟨rfl, Z1, F1, L1, h, rfl⟩)) rfl (Nat.le_of_ble_eq_true rfl) (fun v g9 hq => ?_)
  obtain ⟨rfl, Z1, F1, L1, hM', rfl⟩ := hq
  exact q_icmp_eq hK 1009 dL_law_704 rfl (fun _ => hn _ _ _ _ _ _ _ _ _ hM' hB') (fun h => absurd rfl h)
set_option maxRecDepth 10000 in
theorem lw_c18 (hK : Cl X RL cL_law 4 10 K) (hS : Sc K b L xs) (hL : L ≤ 4096) (ht : 8 * t + 8 ≤ L) (hM : MI Zm Fm σ) (hB : BI Z P F σ) (hn : Nx X K b t 1009 g) : K (MM X Zm Fm Lm (BB X Z V P F Lb g)) 709 (lvs X b t) [] := by
  refine q_aload_n hK 1 dL_law_709 rfl rfl ?_
  refine q_arg hK hS hL 1 (by omega) dL_law_710 dL_law_711 dL_law_712 dL_law_713 dL_law_714 rfl ?_
  rw [MM_BB]
  refine q_callVi hK dL_law_715 lL_93 rfl (Nat.le_refl 10) (by decide) rfl (B_begin hB (Q := fun v g9 => v = (sp_begin σ (xs (8 * t + 1))).1 ∧ ∃ Z' V' P' F' L', BI Z' P' F' (sp_begin σ (xs (8 * t + 1))).2 ∧ g9 = BB X Z' V' P' F' L' (MM X Zm Fm Lm g)) (fun Z' V' P' F' L' h => ⟨rfl, Z', V', P', F', L', h, rfl⟩)) rfl (by decide) (fun v g9 hq => ?_)
  obtain ⟨rfl, Z', V', P', F', L', hB', rfl⟩ := hq
  rw [← MM_BB]
  refine q_aload_n hK 2 dL_law_718 rfl rfl ?_
  refine q_arg hK hS hL 1 (by omega) dL_law_719 dL_law_720 dL_law_721 dL_law_722 dL_law_723 rfl ?_
  refine q_callVi hK dL_law_724 lL_96 rfl (Nat.le_refl 10) (by decide) rfl (M_begin hM (Q := fun v g9 => v = (sp_begin σ (xs (8 * t + 1))).1 ∧ ∃ Z1 F1 L1, MI Z1 F1 (sp_begin σ (xs (8 * t + 1))).2 ∧ g9 = MM X Z1 F1 L1 (BB X Z' V' P' F' L' g)) (fun Z1 F1 L1 h => ⟨rfl, Z1, F1, L1, h, rfl⟩)) rfl (Nat.le_of_ble_eq_true rfl) (fun v g9 hq => ?_)
  obtain ⟨rfl, Z1, F1, L1, hM', rfl⟩ := hq
  exact q_icmp_eq hK 1009 dL_law_727 rfl (fun _ => hn _ _ _ _ _ _ _ _ _ hM' hB') (fun h => absurd rfl h)
set_option maxRecDepth 10000 in
theorem lw_c19 (hK : Cl X RL cL_law 4 10 K) (hS : Sc K b L xs) (hL : L ≤ 4096) (ht : 8 * t + 8 ≤ L) (hM : MI Zm Fm σ) (hB : BI Z P F σ) (hn : Nx X K b t 1009 g) : K (MM X Zm Fm Lm (BB X Z V P F Lb g)) 732 (lvs X b t) [] := by
  refine q_aload_n hK 1 dL_law_732 rfl rfl ?_
  refine q_arg hK hS hL 1 (by omega) dL_law_733 dL_law_734 dL_law_735 dL_law_736 dL_law_737 rfl ?_
  rw [MM_BB]
  refine q_callVi hK dL_law_738 lL_97 rfl (Nat.le_refl 10) (by decide) rfl (B_note hB (Q := fun v g9 => v = (sp_note σ (xs (8 * t + 1))).1 ∧ ∃ Z' V' P' F' L', BI Z' P' F' (sp_note σ (xs (8 * t + 1))).2 ∧ g9 = BB X Z' V' P' F' L' (MM X Zm Fm Lm g)) (fun Z' V' P' F' L' h => ⟨rfl, Z', V', P', F', L', h, rfl⟩)) rfl (by decide) (fun v g9 hq => ?_)
  obtain ⟨rfl, Z', V', P', F', L', hB', rfl⟩ := hq
  rw [← MM_BB]
  refine q_aload_n hK 2 dL_law_741 rfl rfl ?_
  refine q_arg hK hS hL 1 (by omega) dL_law_742 dL_law_743 dL_law_744 dL_law_745 dL_law_746 rfl ?_
  refine q_callVi hK dL_law_747 lL_100 rfl (Nat.le_refl 10) (by decide) rfl (M_note hM (Q := fun v g9 => v = (sp_note σ (xs (8 * t + 1))).1 ∧ ∃ Z1 F1 L1, MI Z1 F1 (sp_note σ (xs (8 * t + 1))).2 ∧ g9 = MM X Z1 F1 L1 (BB X Z' V' P' F' L' g)) (fun Z1 F1 L1 h => ⟨rfl, Z1, F1, L1, h, rfl⟩)) rfl (Nat.le_of_ble_eq_true rfl) (fun v g9 hq => ?_)
  obtain ⟨rfl, Z1, F1, L1, hM', rfl⟩ := hq
  exact q_icmp_eq hK 1009 dL_law_750 rfl (fun _ => hn _ _ _ _ _ _ _ _ _ hM' hB') (fun h => absurd rfl h)
set_option maxRecDepth 10000 in
theorem lw_c20 (hK : Cl X RL cL_law 4 10 K) (hS : Sc K b L xs) (hL : L ≤ 4096) (ht : 8 * t + 8 ≤ L) (hM : MI Zm Fm σ) (hB : BI Z P F σ) (hn : Nx X K b t 1009 g) : K (MM X Zm Fm Lm (BB X Z V P F Lb g)) 755 (lvs X b t) [] := by
  refine q_aload_n hK 1 dL_law_755 rfl rfl ?_
  refine q_arg hK hS hL 1 (by omega) dL_law_756 dL_law_757 dL_law_758 dL_law_759 dL_law_760 rfl ?_
  refine q_arg hK hS hL 2 (by omega) dL_law_761 dL_law_762 dL_law_763 dL_law_764 dL_law_765 rfl ?_
  refine q_arg hK hS hL 3 (by omega) dL_law_766 dL_law_767 dL_law_768 dL_law_769 dL_law_770 rfl ?_
  rw [MM_BB]
  refine q_callVi hK dL_law_771 lL_101 rfl (Nat.le_refl 10) (by decide) rfl (B_lay hB (Q := fun v g9 => v = (sp_lay σ (xs (8 * t + 1)) (xs (8 * t + 2)) (xs (8 * t + 3))).1 ∧ ∃ Z' V' P' F' L', BI Z' P' F' (sp_lay σ (xs (8 * t + 1)) (xs (8 * t + 2)) (xs (8 * t + 3))).2 ∧ g9 = BB X Z' V' P' F' L' (MM X Zm Fm Lm g)) (fun Z' V' P' F' L' h => ⟨rfl, Z', V', P', F', L', h, rfl⟩)) rfl (by decide) (fun v g9 hq => ?_)
  obtain ⟨rfl, Z', V', P', F', L', hB', rfl⟩ := hq
  rw [← MM_BB]
  refine q_aload_n hK 2 dL_law_774 rfl rfl ?_
  refine q_arg hK hS hL 1 (by omega) dL_law_775 dL_law_776 dL_law_777 dL_law_778 dL_law_779 rfl ?_
  refine q_arg hK hS hL 2 (by omega) dL_law_780 dL_law_781 dL_law_782 dL_law_783 dL_law_784 rfl ?_
  refine q_arg hK hS hL 3 (by omega) dL_law_785 dL_law_786 dL_law_787 dL_law_788 dL_law_789 rfl ?_
  refine q_callVi hK dL_law_790 lL_104 rfl (Nat.le_refl 10) (by decide) rfl (M_lay hM (Q := fun v g9 => v = (sp_lay σ (xs (8 * t + 1)) (xs (8 * t + 2)) (xs (8 * t + 3))).1 ∧ ∃ Z1 F1 L1, MI Z1 F1 (sp_lay σ (xs (8 * t + 1)) (xs (8 * t + 2)) (xs (8 * t + 3))).2 ∧ g9 = MM X Z1 F1 L1 (BB X Z' V' P' F' L' g)) (fun Z1 F1 L1 h => ⟨rfl, Z1, F1, L1, h, rfl⟩)) rfl (Nat.le_of_ble_eq_true rfl) (fun v g9 hq => ?_)
  obtain ⟨rfl, Z1, F1, L1, hM', rfl⟩ := hq
  exact q_icmp_eq hK 1009 dL_law_793 rfl (fun _ => hn _ _ _ _ _ _ _ _ _ hM' hB') (fun h => absurd rfl h)
set_option maxRecDepth 10000 in
theorem lw_c21 (hK : Cl X RL cL_law 4 10 K) (hS : Sc K b L xs) (hL : L ≤ 4096) (ht : 8 * t + 8 ≤ L) (hM : MI Zm Fm σ) (hB : BI Z P F σ) (hn : Nx X K b t 1009 g) : K (MM X Zm Fm Lm (BB X Z V P F Lb g)) 798 (lvs X b t) [] := by
  refine q_aload_n hK 1 dL_law_798 rfl rfl ?_
  refine q_arg hK hS hL 1 (by omega) dL_law_799 dL_law_800 dL_law_801 dL_law_802 dL_law_803 rfl ?_
  refine q_arg hK hS hL 2 (by omega) dL_law_804 dL_law_805 dL_law_806 dL_law_807 dL_law_808 rfl ?_
  rw [MM_BB]
  refine q_callVi hK dL_law_809 lL_105 rfl (Nat.le_refl 10) (by decide) rfl (B_take hB (Q := fun v g9 => v = (sp_take σ (xs (8 * t + 1)) (xs (8 * t + 2))).1 ∧ ∃ Z' V' P' F' L', BI Z' P' F' (sp_take σ (xs (8 * t + 1)) (xs (8 * t + 2))).2 ∧ g9 = BB X Z' V' P' F' L' (MM X Zm Fm Lm g)) (fun Z' V' P' F' L' h => ⟨rfl, Z', V', P', F', L', h, rfl⟩)) rfl (by decide) (fun v g9 hq => ?_)
  obtain ⟨rfl, Z', V', P', F', L', hB', rfl⟩ := hq
  rw [← MM_BB]
  refine q_aload_n hK 2 dL_law_812 rfl rfl ?_
  refine q_arg hK hS hL 1 (by omega) dL_law_813 dL_law_814 dL_law_815 dL_law_816 dL_law_817 rfl ?_
  refine q_arg hK hS hL 2 (by omega) dL_law_818 dL_law_819 dL_law_820 dL_law_821 dL_law_822 rfl ?_
  refine q_callVi hK dL_law_823 lL_109 rfl (Nat.le_refl 10) (by decide) rfl (M_take hM (Q := fun v g9 => v = (sp_take σ (xs (8 * t + 1)) (xs (8 * t + 2))).1 ∧ ∃ Z1 F1 L1, MI Z1 F1 (sp_take σ (xs (8 * t + 1)) (xs (8 * t + 2))).2 ∧ g9 = MM X Z1 F1 L1 (BB X Z' V' P' F' L' g)) (fun Z1 F1 L1 h => ⟨rfl, Z1, F1, L1, h, rfl⟩)) rfl (Nat.le_of_ble_eq_true rfl) (fun v g9 hq => ?_)
  obtain ⟨rfl, Z1, F1, L1, hM', rfl⟩ := hq
  exact q_icmp_eq hK 1009 dL_law_826 rfl (fun _ => hn _ _ _ _ _ _ _ _ _ hM' hB') (fun h => absurd rfl h)
set_option maxRecDepth 10000 in
theorem lw_c22 (hK : Cl X RL cL_law 4 10 K) (hS : Sc K b L xs) (hL : L ≤ 4096) (ht : 8 * t + 8 ≤ L) (hM : MI Zm Fm σ) (hB : BI Z P F σ) (hn : Nx X K b t 1009 g) : K (MM X Zm Fm Lm (BB X Z V P F Lb g)) 831 (lvs X b t) [] := by
  refine q_aload_n hK 1 dL_law_831 rfl rfl ?_
  refine q_arg hK hS hL 1 (by omega) dL_law_832 dL_law_833 dL_law_834 dL_law_835 dL_law_836 rfl ?_
  rw [MM_BB]
  refine q_callVi hK dL_law_837 lL_110 rfl (Nat.le_refl 10) (by decide) rfl (B_scale hB (Q := fun v g9 => v = (sp_scale σ (xs (8 * t + 1))).1 ∧ ∃ Z' V' P' F' L', BI Z' P' F' (sp_scale σ (xs (8 * t + 1))).2 ∧ g9 = BB X Z' V' P' F' L' (MM X Zm Fm Lm g)) (fun Z' V' P' F' L' h => ⟨rfl, Z', V', P', F', L', h, rfl⟩)) rfl (by decide) (fun v g9 hq => ?_)
  obtain ⟨rfl, Z', V', P', F', L', hB', rfl⟩ := hq
  rw [← MM_BB]
  refine q_aload_n hK 2 dL_law_840 rfl rfl ?_
  refine q_arg hK hS hL 1 (by omega) dL_law_841 dL_law_842 dL_law_843 dL_law_844 dL_law_845 rfl ?_
  refine q_callVi hK dL_law_846 lL_113 rfl (Nat.le_refl 10) (by decide) rfl (M_scale hM (Q := fun v g9 => v = (sp_scale σ (xs (8 * t + 1))).1 ∧ ∃ Z1 F1 L1, MI Z1 F1 (sp_scale σ (xs (8 * t + 1))).2 ∧ g9 = MM X Z1 F1 L1 (BB X Z' V' P' F' L' g)) (fun Z1 F1 L1 h => ⟨rfl, Z1, F1, L1, h, rfl⟩)) rfl (Nat.le_of_ble_eq_true rfl) (fun v g9 hq => ?_)
  obtain ⟨rfl, Z1, F1, L1, hM', rfl⟩ := hq
  exact q_icmp_eq hK 1009 dL_law_849 rfl (fun _ => hn _ _ _ _ _ _ _ _ _ hM' hB') (fun h => absurd rfl h)
set_option maxRecDepth 10000 in
theorem lw_c23 (hK : Cl X RL cL_law 4 10 K) (hS : Sc K b L xs) (hL : L ≤ 4096) (ht : 8 * t + 8 ≤ L) (hM : MI Zm Fm σ) (hB : BI Z P F σ) (hn : Nx X K b t 1009 g) : K (MM X Zm Fm Lm (BB X Z V P F Lb g)) 854 (lvs X b t) [] := by
  refine q_aload_n hK 1 dL_law_854 rfl rfl ?_
  refine q_arg hK hS hL 1 (by omega) dL_law_855 dL_law_856 dL_law_857 dL_law_858 dL_law_859 rfl ?_
  rw [MM_BB]
  refine q_callVi hK dL_law_860 lL_114 rfl (Nat.le_refl 10) (by decide) rfl (B_kinds hB (Q := fun v g9 => v = (sp_kinds σ (xs (8 * t + 1))).1 ∧ ∃ Z' V' P' F' L', BI Z' P' F' (sp_kinds σ (xs (8 * t + 1))).2 ∧ g9 = BB X Z' V' P' F' L' (MM X Zm Fm Lm g)) (fun Z' V' P' F' L' h => ⟨rfl, Z', V', P', F', L', h, rfl⟩)) rfl (by decide) (fun v g9 hq => ?_)
  obtain ⟨rfl, Z', V', P', F', L', hB', rfl⟩ := hq
  rw [← MM_BB]
  refine q_aload_n hK 2 dL_law_863 rfl rfl ?_
  refine q_arg hK hS hL 1 (by omega) dL_law_864 dL_law_865 dL_law_866 dL_law_867 dL_law_868 rfl ?_
  refine q_callVi hK dL_law_869 lL_117 rfl (Nat.le_refl 10) (by decide) rfl (M_kinds hM (Q := fun v g9 => v = (sp_kinds σ (xs (8 * t + 1))).1 ∧ ∃ Z1 F1 L1, MI Z1 F1 (sp_kinds σ (xs (8 * t + 1))).2 ∧ g9 = MM X Z1 F1 L1 (BB X Z' V' P' F' L' g)) (fun Z1 F1 L1 h => ⟨rfl, Z1, F1, L1, h, rfl⟩)) rfl (Nat.le_of_ble_eq_true rfl) (fun v g9 hq => ?_)
  obtain ⟨rfl, Z1, F1, L1, hM', rfl⟩ := hq
  exact q_icmp_eq hK 1009 dL_law_872 rfl (fun _ => hn _ _ _ _ _ _ _ _ _ hM' hB') (fun h => absurd rfl h)
set_option maxRecDepth 10000 in
theorem lw_c24 (hK : Cl X RL cL_law 4 10 K) (hS : Sc K b L xs) (hL : L ≤ 4096) (ht : 8 * t + 8 ≤ L) (hM : MI Zm Fm σ) (hB : BI Z P F σ) (hn : Nx X K b t 1009 g) : K (MM X Zm Fm Lm (BB X Z V P F Lb g)) 877 (lvs X b t) [] := by
  refine q_aload_n hK 1 dL_law_877 rfl rfl ?_
  refine q_arg hK hS hL 1 (by omega) dL_law_878 dL_law_879 dL_law_880 dL_law_881 dL_law_882 rfl ?_
  refine q_arg hK hS hL 2 (by omega) dL_law_883 dL_law_884 dL_law_885 dL_law_886 dL_law_887 rfl ?_
  refine q_arg hK hS hL 3 (by omega) dL_law_888 dL_law_889 dL_law_890 dL_law_891 dL_law_892 rfl ?_
  rw [MM_BB]
  refine q_callVi hK dL_law_893 lL_118 rfl (Nat.le_refl 10) (by decide) rfl (B_step hB (Q := fun v g9 => v = (sp_step σ (xs (8 * t + 1)) (xs (8 * t + 2)) (xs (8 * t + 3))).1 ∧ ∃ Z' V' P' F' L', BI Z' P' F' (sp_step σ (xs (8 * t + 1)) (xs (8 * t + 2)) (xs (8 * t + 3))).2 ∧ g9 = BB X Z' V' P' F' L' (MM X Zm Fm Lm g)) (fun Z' V' P' F' L' h => ⟨rfl, Z', V', P', F', L', h, rfl⟩)) rfl (by decide) (fun v g9 hq => ?_)
  obtain ⟨rfl, Z', V', P', F', L', hB', rfl⟩ := hq
  rw [← MM_BB]
  refine q_aload_n hK 2 dL_law_896 rfl rfl ?_
  refine q_arg hK hS hL 1 (by omega) dL_law_897 dL_law_898 dL_law_899 dL_law_900 dL_law_901 rfl ?_
  refine q_arg hK hS hL 2 (by omega) dL_law_902 dL_law_903 dL_law_904 dL_law_905 dL_law_906 rfl ?_
  refine q_arg hK hS hL 3 (by omega) dL_law_907 dL_law_908 dL_law_909 dL_law_910 dL_law_911 rfl ?_
  refine q_callVi hK dL_law_912 lL_122 rfl (Nat.le_refl 10) (by decide) rfl (M_step hM (Q := fun v g9 => v = (sp_step σ (xs (8 * t + 1)) (xs (8 * t + 2)) (xs (8 * t + 3))).1 ∧ ∃ Z1 F1 L1, MI Z1 F1 (sp_step σ (xs (8 * t + 1)) (xs (8 * t + 2)) (xs (8 * t + 3))).2 ∧ g9 = MM X Z1 F1 L1 (BB X Z' V' P' F' L' g)) (fun Z1 F1 L1 h => ⟨rfl, Z1, F1, L1, h, rfl⟩)) rfl (Nat.le_of_ble_eq_true rfl) (fun v g9 hq => ?_)
  obtain ⟨rfl, Z1, F1, L1, hM', rfl⟩ := hq
  exact q_icmp_eq hK 1009 dL_law_915 rfl (fun _ => hn _ _ _ _ _ _ _ _ _ hM' hB') (fun h => absurd rfl h)
set_option maxRecDepth 10000 in
theorem lw_c25 (hK : Cl X RL cL_law 4 10 K) (hS : Sc K b L xs) (hL : L ≤ 4096) (ht : 8 * t + 8 ≤ L) (hM : MI Zm Fm σ) (hB : BI Z P F σ) (hn : Nx X K b t 1009 g) : K (MM X Zm Fm Lm (BB X Z V P F Lb g)) 920 (lvs X b t) [] := by
  refine q_aload_n hK 1 dL_law_920 rfl rfl ?_
  refine q_arg hK hS hL 1 (by omega) dL_law_921 dL_law_922 dL_law_923 dL_law_924 dL_law_925 rfl ?_
  rw [MM_BB]
  refine q_callVi hK dL_law_926 lL_123 rfl (Nat.le_refl 10) (by decide) rfl (B_mode hB (Q := fun v g9 => v = (sp_mode σ (xs (8 * t + 1))).1 ∧ ∃ Z' V' P' F' L', BI Z' P' F' (sp_mode σ (xs (8 * t + 1))).2 ∧ g9 = BB X Z' V' P' F' L' (MM X Zm Fm Lm g)) (fun Z' V' P' F' L' h => ⟨rfl, Z', V', P', F', L', h, rfl⟩)) rfl (by decide) (fun v g9 hq => ?_)
  obtain ⟨rfl, Z', V', P', F', L', hB', rfl⟩ := hq
  rw [← MM_BB]
  refine q_aload_n hK 2 dL_law_929 rfl rfl ?_
  refine q_arg hK hS hL 1 (by omega) dL_law_930 dL_law_931 dL_law_932 dL_law_933 dL_law_934 rfl ?_
  refine q_callVi hK dL_law_935 lL_126 rfl (Nat.le_refl 10) (by decide) rfl (M_mode hM (Q := fun v g9 => v = (sp_mode σ (xs (8 * t + 1))).1 ∧ ∃ Z1 F1 L1, MI Z1 F1 (sp_mode σ (xs (8 * t + 1))).2 ∧ g9 = MM X Z1 F1 L1 (BB X Z' V' P' F' L' g)) (fun Z1 F1 L1 h => ⟨rfl, Z1, F1, L1, h, rfl⟩)) rfl (Nat.le_of_ble_eq_true rfl) (fun v g9 hq => ?_)
  obtain ⟨rfl, Z1, F1, L1, hM', rfl⟩ := hq
  exact q_icmp_eq hK 1009 dL_law_938 rfl (fun _ => hn _ _ _ _ _ _ _ _ _ hM' hB') (fun h => absurd rfl h)
set_option maxRecDepth 10000 in
theorem lw_c26 (hK : Cl X RL cL_law 4 10 K) (hS : Sc K b L xs) (hL : L ≤ 4096) (ht : 8 * t + 8 ≤ L) (hM : MI Zm Fm σ) (hB : BI Z P F σ) (hn : Nx X K b t 1009 g) : K (MM X Zm Fm Lm (BB X Z V P F Lb g)) 943 (lvs X b t) [] := by
  refine q_aload_n hK 1 dL_law_943 rfl rfl ?_
  refine q_arg hK hS hL 1 (by omega) dL_law_944 dL_law_945 dL_law_946 dL_law_947 dL_law_948 rfl ?_
  rw [MM_BB]
  refine q_callVi hK dL_law_949 lL_127 rfl (Nat.le_refl 10) (by decide) rfl (B_follows hB (Q := fun v g9 => v = (sp_follows σ (xs (8 * t + 1))).1 ∧ ∃ Z' V' P' F' L', BI Z' P' F' (sp_follows σ (xs (8 * t + 1))).2 ∧ g9 = BB X Z' V' P' F' L' (MM X Zm Fm Lm g)) (fun Z' V' P' F' L' h => ⟨rfl, Z', V', P', F', L', h, rfl⟩)) rfl (by decide) (fun v g9 hq => ?_)
  obtain ⟨rfl, Z', V', P', F', L', hB', rfl⟩ := hq
  rw [← MM_BB]
  refine q_aload_n hK 2 dL_law_952 rfl rfl ?_
  refine q_arg hK hS hL 1 (by omega) dL_law_953 dL_law_954 dL_law_955 dL_law_956 dL_law_957 rfl ?_
  refine q_callVi hK dL_law_958 lL_130 rfl (Nat.le_refl 10) (by decide) rfl (M_follows hM (Q := fun v g9 => v = (sp_follows σ (xs (8 * t + 1))).1 ∧ ∃ Z1 F1 L1, MI Z1 F1 (sp_follows σ (xs (8 * t + 1))).2 ∧ g9 = MM X Z1 F1 L1 (BB X Z' V' P' F' L' g)) (fun Z1 F1 L1 h => ⟨rfl, Z1, F1, L1, h, rfl⟩)) rfl (Nat.le_of_ble_eq_true rfl) (fun v g9 hq => ?_)
  obtain ⟨rfl, Z1, F1, L1, hM', rfl⟩ := hq
  exact q_icmp_eq hK 1009 dL_law_961 rfl (fun _ => hn _ _ _ _ _ _ _ _ _ hM' hB') (fun h => absurd rfl h)
set_option maxRecDepth 10000 in
theorem lw_c27 (hK : Cl X RL cL_law 4 10 K) (hS : Sc K b L xs) (hL : L ≤ 4096) (ht : 8 * t + 8 ≤ L) (hM : MI Zm Fm σ) (hB : BI Z P F σ) (hn : Nx X K b t 1009 g) : K (MM X Zm Fm Lm (BB X Z V P F Lb g)) 966 (lvs X b t) [] := by
  refine q_aload_n hK 1 dL_law_966 rfl rfl ?_
  refine q_arg hK hS hL 1 (by omega) dL_law_967 dL_law_968 dL_law_969 dL_law_970 dL_law_971 rfl ?_
  refine q_arg hK hS hL 2 (by omega) dL_law_972 dL_law_973 dL_law_974 dL_law_975 dL_law_976 rfl ?_
  refine q_arg hK hS hL 3 (by omega) dL_law_977 dL_law_978 dL_law_979 dL_law_980 dL_law_981 rfl ?_
  rw [MM_BB]
  refine q_callVi hK dL_law_982 lL_131 rfl (Nat.le_refl 10) (by decide) rfl (B_quotient hB (Q := fun v g9 => v = (sp_quotient σ (xs (8 * t + 1)) (xs (8 * t + 2)) (xs (8 * t + 3))).1 ∧ ∃ Z' V' P' F' L', BI Z' P' F' (sp_quotient σ (xs (8 * t + 1)) (xs (8 * t + 2)) (xs (8 * t + 3))).2 ∧ g9 = BB X Z' V' P' F' L' (MM X Zm Fm Lm g)) (fun Z' V' P' F' L' h => ⟨rfl, Z', V', P', F', L', h, rfl⟩)) rfl (by decide) (fun v g9 hq => ?_)
  obtain ⟨rfl, Z', V', P', F', L', hB', rfl⟩ := hq
  rw [← MM_BB]
  refine q_aload_n hK 2 dL_law_985 rfl rfl ?_
  refine q_arg hK hS hL 1 (by omega) dL_law_986 dL_law_987 dL_law_988 dL_law_989 dL_law_990 rfl ?_
  refine q_arg hK hS hL 2 (by omega) dL_law_991 dL_law_992 dL_law_993 dL_law_994 dL_law_995 rfl ?_
  refine q_arg hK hS hL 3 (by omega) dL_law_996 dL_law_997 dL_law_998 dL_law_999 dL_law_1000 rfl ?_
  refine q_callVi hK dL_law_1001 lL_134 rfl (Nat.le_refl 10) (by decide) rfl (M_quotient hM (Q := fun v g9 => v = (sp_quotient σ (xs (8 * t + 1)) (xs (8 * t + 2)) (xs (8 * t + 3))).1 ∧ ∃ Z1 F1 L1, MI Z1 F1 (sp_quotient σ (xs (8 * t + 1)) (xs (8 * t + 2)) (xs (8 * t + 3))).2 ∧ g9 = MM X Z1 F1 L1 (BB X Z' V' P' F' L' g)) (fun Z1 F1 L1 h => ⟨rfl, Z1, F1, L1, h, rfl⟩)) rfl (Nat.le_of_ble_eq_true rfl) (fun v g9 hq => ?_)
  obtain ⟨rfl, Z1, F1, L1, hM', rfl⟩ := hq
  exact q_icmp_eq hK 1009 dL_law_1004 rfl (fun _ => hn _ _ _ _ _ _ _ _ _ hM' hB') (fun h => absurd rfl h)
set_option maxRecDepth 10000 in
theorem lw_step (hK : Cl X RL cL_law 4 10 K) (hS : Sc K b L xs) (hE : ∀ (g : Mem) (vs : Lv), K g 1016 vs [.int 1]) (hL : L ≤ 4096) (h8 : 8 * t ≤ L) (hrec : 8 * t + 8 ≤ L → Nx X K b (t + 1) 18 g) : Nx X K b t 18 g := by
  intro σ Zm Fm Lm Z V P F Lb hM hB
  refine q_iload_n hK 3 dL_law_18 rfl rfl ?_
  refine q_aload_n hK 0 dL_law_19 rfl rfl ?_
  refine hS.2 _ _ _ _ dL_law_20 ?_
  refine q_bipush hK (v := nI 8) dL_law_21 rfl ?_
  refine q_isub hK dL_law_23 ?_
  refine q_icmp_gt hK 1015 dL_law_24 rfl (fun _ => q_iconst hK dL_law_1015 rfl (hE _ _)) (fun h => ?_)
  have ht : 8 * t + 8 ≤ L := by
    rw [jI_nat, jI_nat, jI_nat, jI_sub, jI_lt (by omega) (by omega) (by omega) (by omega)] at h
    omega
  have hn : Nx X K b t 1009 g := fun σ Zm Fm Lm Z V P F Lb hM hB => q_iinc hK (v := nI (8 * (t + 1))) dL_law_1009 rfl (by show nI (8 * t) + nI 8 = _; rw [nI_addn]; rfl) (by decide) (q_goto hK 18 dL_law_1012 rfl (hrec ht σ Zm Fm Lm Z V P F Lb hM hB))
  refine q_aload_n hK 0 dL_law_27 rfl rfl ?_
  refine q_iload_n hK 3 dL_law_28 rfl rfl ?_
  refine hS.1 _ _ _ _ _ dL_law_29 (vp_in_nI (by omega) (by omega)) ?_
  refine q_bipush hK (v := nI 31) dL_law_30 rfl ?_
  refine q_iand hK dL_law_32 ?_
  generalize xs (nI (8 * t)).toNatClampNeg &&& nI 31 = x
  by_cases h1 : x.toInt < 0 ∨ 27 < x.toInt
  · exact q_tabO hK 1009 dL_law_33 h1 rfl (hn _ _ _ _ _ _ _ _ _ hM hB)
  · obtain ⟨k, hk, hk2⟩ : ∃ k : Nat, k < 28 ∧ (x.toInt - 0).toNat = k := ⟨_, by omega, rfl⟩
    have h3 : k = 0 ∨ k = 1 ∨ k = 2 ∨ k = 3 ∨ k = 4 ∨ k = 5 ∨ k = 6 ∨ k = 7 ∨ k = 8 ∨ k = 9 ∨ k = 10 ∨ k = 11 ∨ k = 12 ∨ k = 13 ∨ k = 14 ∨ k = 15 ∨ k = 16 ∨ k = 17 ∨ k = 18 ∨ k = 19 ∨ k = 20 ∨ k = 21 ∨ k = 22 ∨ k = 23 ∨ k = 24 ∨ k = 25 ∨ k = 26 ∨ k = 27 := by omega
    rcases h3 with rfl | rfl | rfl | rfl | rfl | rfl | rfl | rfl | rfl | rfl | rfl | rfl | rfl | rfl | rfl | rfl | rfl | rfl | rfl | rfl | rfl | rfl | rfl | rfl | rfl | rfl | rfl | rfl
    · exact q_tabI hK 160 dL_law_33 (by omega) (by omega) (by rw [hk2]; rfl) rfl (lw_c0 hK hS hL ht hM hB hn)
    · exact q_tabI hK 173 dL_law_33 (by omega) (by omega) (by rw [hk2]; rfl) rfl (lw_c1 hK hS hL ht hM hB hn)
    · exact q_tabI hK 260 dL_law_33 (by omega) (by omega) (by rw [hk2]; rfl) rfl (lw_c2 hK hS hL ht hM hB hn)
    · exact q_tabI hK 303 dL_law_33 (by omega) (by omega) (by rw [hk2]; rfl) rfl (lw_c3 hK hS hL ht hM hB hn)
    · exact q_tabI hK 356 dL_law_33 (by omega) (by omega) (by rw [hk2]; rfl) rfl (lw_c4 hK hS hL ht hM hB hn)
    · exact q_tabI hK 399 dL_law_33 (by omega) (by omega) (by rw [hk2]; rfl) rfl (lw_c5 hK hS hL ht hM hB hn)
    · exact q_tabI hK 422 dL_law_33 (by omega) (by omega) (by rw [hk2]; rfl) rfl (lw_c6 hK hS hL ht hM hB hn)
    · exact q_tabI hK 455 dL_law_33 (by omega) (by omega) (by rw [hk2]; rfl) rfl (lw_c7 hK hS hL ht hM hB hn)
    · exact q_tabI hK 488 dL_law_33 (by omega) (by omega) (by rw [hk2]; rfl) rfl (lw_c8 hK hS hL ht hM hB hn)
    · exact q_tabI hK 511 dL_law_33 (by omega) (by omega) (by rw [hk2]; rfl) rfl (lw_c9 hK hS hL ht hM hB hn)
    · exact q_tabI hK 534 dL_law_33 (by omega) (by omega) (by rw [hk2]; rfl) rfl (lw_c10 hK hS hL ht hM hB hn)
    · exact q_tabI hK 567 dL_law_33 (by omega) (by omega) (by rw [hk2]; rfl) rfl (lw_c11 hK hS hL ht hM hB hn)
    · exact q_tabI hK 600 dL_law_33 (by omega) (by omega) (by rw [hk2]; rfl) rfl (lw_c12 hK hS hL ht hM hB hn)
    · exact q_tabI hK 623 dL_law_33 (by omega) (by omega) (by rw [hk2]; rfl) rfl (lw_c13 hK hS hL ht hM hB hn)
    · exact q_tabI hK 636 dL_law_33 (by omega) (by omega) (by rw [hk2]; rfl) rfl (lw_c14 hK hS hL ht hM hB hn)
    · exact q_tabI hK 649 dL_law_33 (by omega) (by omega) (by rw [hk2]; rfl) rfl (lw_c15 hK hS hL ht hM hB hn)
    · exact q_tabI hK 663 dL_law_33 (by omega) (by omega) (by rw [hk2]; rfl) rfl (lw_c16 hK hS hL ht hM hB hn)
    · exact q_tabI hK 686 dL_law_33 (by omega) (by omega) (by rw [hk2]; rfl) rfl (lw_c17 hK hS hL ht hM hB hn)
    · exact q_tabI hK 709 dL_law_33 (by omega) (by omega) (by rw [hk2]; rfl) rfl (lw_c18 hK hS hL ht hM hB hn)
    · exact q_tabI hK 732 dL_law_33 (by omega) (by omega) (by rw [hk2]; rfl) rfl (lw_c19 hK hS hL ht hM hB hn)
    · exact q_tabI hK 755 dL_law_33 (by omega) (by omega) (by rw [hk2]; rfl) rfl (lw_c20 hK hS hL ht hM hB hn)
    · exact q_tabI hK 798 dL_law_33 (by omega) (by omega) (by rw [hk2]; rfl) rfl (lw_c21 hK hS hL ht hM hB hn)
    · exact q_tabI hK 831 dL_law_33 (by omega) (by omega) (by rw [hk2]; rfl) rfl (lw_c22 hK hS hL ht hM hB hn)
    · exact q_tabI hK 854 dL_law_33 (by omega) (by omega) (by rw [hk2]; rfl) rfl (lw_c23 hK hS hL ht hM hB hn)
    · exact q_tabI hK 877 dL_law_33 (by omega) (by omega) (by rw [hk2]; rfl) rfl (lw_c24 hK hS hL ht hM hB hn)
    · exact q_tabI hK 920 dL_law_33 (by omega) (by omega) (by rw [hk2]; rfl) rfl (lw_c25 hK hS hL ht hM hB hn)
    · exact q_tabI hK 943 dL_law_33 (by omega) (by omega) (by rw [hk2]; rfl) rfl (lw_c26 hK hS hL ht hM hB hn)
    · exact q_tabI hK 966 dL_law_33 (by omega) (by omega) (by rw [hk2]; rfl) rfl (lw_c27 hK hS hL ht hM hB hn)
theorem lw_loop (hK : Cl X RL cL_law 4 10 K) (hS : Sc K b L xs) (hE : ∀ (g : Mem) (vs : Lv), K g 1016 vs [.int 1]) (hL : L ≤ 4096) : ∀ n t, L ≤ 8 * t + n → 8 * t ≤ L → Nx X K b t 18 g := by
  intro n
  induction n with
  | zero => exact fun t h1 h2 => lw_step hK hS hE hL h2 (fun h3 => absurd h3 (by omega))
  | succ n ih => exact fun t h1 h2 => lw_step hK hS hE hL h2 (fun h3 => ih (t + 1) (by omega) (by omega))
end LAW
