/-! the law's cases: the class's answer and the reference's, on the same words of the script -/
def lwA (E : tkE) (b k : Nat) : List (Nat × Value) := [(3, .int (nI k)), (2, .ref (e_ad E 217)), (1, .ref (e_ad E 0)), (0, .ref b)]
def lwC (E : tkE) (X : tkX) (b L : Nat) (xs : Nat → Int32) (n w : Nat) : Prop := x_R X = room_1 ∧ va_X b L xs (x_s X) (x_s X).heap ∧ b < (x_s X).heap.size ∧ e_sz E = (x_s X).heap.size ∧ L ≤ 3072 ∧ n ≤ 600000 ∧ w ≤ 7302250
section
variable {E : tkE} {X : tkX} {n w : Nat} {own : String} {ret : Option FieldType} {Z : State → Prop} {pc : Nat} {st : List Value} {T : tkT} {h : tkH} {b L k : Nat} {xs : Nat → Int32}
theorem lwR (C : lwC E X b L xs n w) {d nC : Nat} (h1 : d + 1 ≤ 11) (h2 : 8 + (nC + 11) + 40 * d ≤ 398) : d + 1 ≤ (x_R X).frames ∧ 8 + (nC + 11) + 40 * d ≤ (x_R X).locals := by
  rw [C.1]
  exact ⟨h1, h2⟩
theorem lwW (C : lwC E X b L xs n w) : n ≤ (x_R X).cells ∧ w ≤ (x_R X).slots := by
  rw [C.1]
  exact ⟨C.2.2.2.2.2.1, C.2.2.2.2.2.2⟩
theorem tk_sld {al : List (Nat × Value)} (C : lwC E X b L xs n w) {cc : ByteArray} {nL : Nat} (G : tkG E X cc nL own ret) (hd : decode cc pc = .ok (.iaload, 1)) {i : Nat} (hi : i < L) (kk : tkV E X nL n w Z (pc + 1) al (.int (xs i) :: st) T h) : tkV E X nL n w Z pc al (.int (nI i) :: .ref b :: st) T h := by
  intro H locs ls hP hz hS hl
  obtain ⟨c1, c2, c3, c4, c5, -⟩ := C
  have ic : (nI i).toNatClampNeg = i := nI_clamp (by omega)
  refine va_sld G.1.1 G.1.2.1 c2 c3 (show ¬ e_sz E ≤ b by omega) hS (show vp_in (nI i) L from by
    rintro (q | q)
    · exact nI_pos (n := i) (by omega) q
    · rw [ic] at q
      omega) hd ?_
  rw [ic]
  exact kk H locs ls hP hz hS hl
theorem tk_slen {al : List (Nat × Value)} (C : lwC E X b L xs n w) {cc : ByteArray} {nL : Nat} (G : tkG E X cc nL own ret) (hd : decode cc pc = .ok (.arraylength, 1)) (kk : tkV E X nL n w Z (pc + 1) al (.int (nI L) :: st) T h) : tkV E X nL n w Z pc al (.ref b :: st) T h := by
  intro H locs ls hP hz hS hl
  obtain ⟨c1, c2, c3, c4, c5, -⟩ := C
  exact va_slen G.1.1 G.1.2.1 c2 c3 (show ¬ e_sz E ≤ b by omega) hS hd (kk H locs ls hP hz hS hl)
theorem tk_arg (C : lwC E X b L xs n w) {cc : ByteArray} (G : tkG E X cc 4 own ret) {j : Int} (jn : Nat) (d1 : decode cc pc = .ok (.aload_n 0, 1)) (d2 : decode cc (pc + 1) = .ok (.iload_n 3, 1)) (d3 : decode cc (pc + 2) = .ok (.iconst j, 1)) (d4 : decode cc (pc + 3) = .ok (.iadd, 1)) (d5 : decode cc (pc + 4) = .ok (.iaload, 1)) (hj : Int32.ofInt j = nI jn) (hk : k + jn < L) (kk : tkV E X 4 n w Z (pc + 5) (lwA E b k) (.int (xs (k + jn)) :: st) T h) : tkV E X 4 n w Z pc (lwA E b k) st T h := by
  refine tk_aload_n G d1 3 rfl ?_
  refine tk_iload_n G d2 0 rfl ?_
  refine tk_iconst G d3 hj ?_
  refine tk_iadd G d4 ?_
  rw [nI_add]
  exact tk_sld C G d5 hk kk
theorem tk_argZ (C : lwC E X b L xs n w) {cc : ByteArray} (G : tkG E X cc 4 own ret) {j : Int} (jn : Nat) (d1 : decode cc pc = .ok (.aload_n 0, 1)) (d2 : decode cc (pc + 1) = .ok (.iload_n 3, 1)) (d3 : decode cc (pc + 2) = .ok (.iconst j, 1)) (d4 : decode cc (pc + 3) = .ok (.iadd, 1)) (d5 : decode cc (pc + 4) = .ok (.iaload, 1)) (d6 : decode cc (pc + 5) = .ok (.ifCond .eq 7, 3)) (d7 : decode cc (pc + 8) = .ok (.iconst 1, 1)) (d8 : decode cc (pc + 9) = .ok (.goto 4, 3)) (d9 : decode cc (pc + 12) = .ok (.iconst 0, 1)) (hj : Int32.ofInt j = nI jn) (hk : k + jn < L) (kk : tkV E X 4 n w Z (pc + 13) (lwA E b k) (.int (if xs (k + jn) = 0 then 0 else 1) :: st) T h) : tkV E X 4 n w Z pc (lwA E b k) st T h := by
  refine tk_arg C G jn d1 d2 d3 d4 d5 hj hk ?_
  refine tk_if_eq (tgt := pc + 12) G d6 (by omega) (fun q => ?_) (fun q => ?_)
  · refine tk_iconst G d9 cI_0 ?_
    rw [if_pos q] at kk
    exact kk
  · refine tk_iconst G d7 cI_1 ?_
    refine tk_goto (tgt := pc + 13) G d8 (by omega) ?_
    rw [if_neg q] at kk
    exact kk
theorem tF0 : tkF[0]? = some (8 + 3, 7, [some (some 1), some (some 10), some (some 192), some (some 202), some (some 205), some (some 208), none]) := by decide +kernel
theorem tF217 : tkF[217]? = some (9 + 3, 29, (tkF.getD 217 (99, 0, [])).2.2) := by decide +kernel
theorem kd0 : kd 0 = 11 := by decide +kernel
theorem kd217 : kd 217 = 12 := by decide +kernel
theorem tk_c8 {y : MethodName} {bC cc : ByteArray} {nC nL kk0 d idx : Nat} {al : List (Nat × Value)} {As st0 : List Value} {r : Int32} {h' : tkH} (C : lwC E X b L xs n w) (G : tkG E X cc nL own ret) (hd : decode cc pc = .ok (.invokevirtual idx, 3)) (hY : tkY y bC nC (some .int) kk0) (hw : Cond.methodLink own idx y ∈ tkTb) (hi : Cond.instanceMethod y ∈ tkTb) (hs : Cond.selects RX8 y y ∈ tkTb) (hR : d + 1 ≤ 11 ∧ 8 + (nC + 11) + 40 * d ≤ 398) (hM : tkM E y bC nC (some .int) d tkF (.ref (e_ad E 0) :: As) h (some (.int r)) h') (hn : As.length = kk0) (hst : st0 = As.reverse ++ .ref (e_ad E 0) :: st) (hcat : (st.map fun v => v.category).sum ≤ 8) (kk : tkV E X nL n w Z (pc + 3) al (.int r :: st) tkF h') : tkV E X nL n w Z pc al st0 tkF h :=
  tk_callV G hd hY hw hi hs (lwR C hR.1 hR.2) kX8 tF0 hM hn hst hcat (lwW C) kk
theorem tk_c9 {y : MethodName} {bC cc : ByteArray} {nC nL kk0 d idx : Nat} {al : List (Nat × Value)} {As st0 : List Value} {r : Int32} {h' : tkH} (C : lwC E X b L xs n w) (G : tkG E X cc nL own ret) (hd : decode cc pc = .ok (.invokevirtual idx, 3)) (hY : tkY y bC nC (some .int) kk0) (hw : Cond.methodLink own idx y ∈ tkTb) (hi : Cond.instanceMethod y ∈ tkTb) (hs : Cond.selects RX9 y y ∈ tkTb) (hR : d + 1 ≤ 11 ∧ 8 + (nC + 11) + 40 * d ≤ 398) (hM : tkM E y bC nC (some .int) d tkF (.ref (e_ad E 217) :: As) h (some (.int r)) h') (hn : As.length = kk0) (hst : st0 = As.reverse ++ .ref (e_ad E 217) :: st) (hcat : (st.map fun v => v.category).sum ≤ 8) (kk : tkV E X nL n w Z (pc + 3) al (.int r :: st) tkF h') : tkV E X nL n w Z pc al st0 tkF h :=
  tk_callV G hd hY hw hi hs (lwR C hR.1 hR.2) kX9 tF217 hM hn hst hcat (lwW C) kk
theorem lw_c0 (C : lwC E X b L xs n w) (G : tkG E X cL_law 4 RL ret) (hk : k + 5 < L) (I : Inv h) (K : ∀ h', Inv h' → tkV E X 4 n w Z 1303 (lwA E b k) [] tkF h') : tkV E X 4 n w Z 172 (lwA E b k) [] tkF h := by
  obtain ⟨r, h1, h2, e1, e2, I2⟩ := op_tale I (xs (k + 1)) (xs (k + 2)) (xs (k + 3))
  refine tk_aload_n G dL_law_172 2 rfl ?_
  refine tk_arg C G 1 dL_law_173 dL_law_174 dL_law_175 dL_law_176 dL_law_177 (by decide) (by omega) ?_
  refine tk_arg C G 2 dL_law_178 dL_law_179 dL_law_180 dL_law_181 dL_law_182 (by decide) (by omega) ?_
  refine tk_arg C G 3 dL_law_183 dL_law_184 dL_law_185 dL_law_186 dL_law_187 (by decide) (by omega) ?_
  refine tk_c8 (As := [.int (xs (k + 1)), .int (xs (k + 2)), .int (xs (k + 3))]) (st := []) C G dL_law_188 wY_X8_tale wM_L_13 wI_X8_tale wS_X8_tale (by decide) (c_X8_tale E h 0 (xs (k + 1)) (xs (k + 2)) (xs (k + 3)) kd0 (r, h1) e1) rfl rfl (Nat.le_of_ble_eq_true rfl) ?_
  refine tk_aload_n G dL_law_191 1 rfl ?_
  refine tk_arg C G 1 dL_law_192 dL_law_193 dL_law_194 dL_law_195 dL_law_196 (by decide) (by omega) ?_
  refine tk_arg C G 2 dL_law_197 dL_law_198 dL_law_199 dL_law_200 dL_law_201 (by decide) (by omega) ?_
  refine tk_arg C G 3 dL_law_202 dL_law_203 dL_law_204 dL_law_205 dL_law_206 (by decide) (by omega) ?_
  refine tk_c9 (As := [.int (xs (k + 1)), .int (xs (k + 2)), .int (xs (k + 3))]) (st := [.int r]) C G dL_law_207 wY_X9_tale wM_L_17 wI_X9_tale wS_X9_tale (by decide) (c_X9_tale E h1 217 (xs (k + 1)) (xs (k + 2)) (xs (k + 3)) kd217 (r, h2) e2) rfl rfl (Nat.le_of_ble_eq_true rfl) ?_
  exact tk_icmp_eq (tgt := 1303) G dL_law_210 rfl (fun _ => K h2 I2) (fun q => absurd rfl q)
theorem lw_c1 (C : lwC E X b L xs n w) (G : tkG E X cL_law 4 RL ret) (hk : k + 5 < L) (I : Inv h) (K : ∀ h', Inv h' → tkV E X 4 n w Z 1303 (lwA E b k) [] tkF h') : tkV E X 4 n w Z 215 (lwA E b k) [] tkF h := by
  obtain ⟨r, h1, h2, e1, e2, I2⟩ := op_as I (xs (k + 1)) (xs (k + 2))
  refine tk_aload_n G dL_law_215 2 rfl ?_
  refine tk_arg C G 1 dL_law_216 dL_law_217 dL_law_218 dL_law_219 dL_law_220 (by decide) (by omega) ?_
  refine tk_arg C G 2 dL_law_221 dL_law_222 dL_law_223 dL_law_224 dL_law_225 (by decide) (by omega) ?_
  refine tk_c8 (As := [.int (xs (k + 1)), .int (xs (k + 2))]) (st := []) C G dL_law_226 wY_X8_as wM_L_18 wI_X8_as wS_X8_as (by decide) (c_X8_as E h 0 (xs (k + 1)) (xs (k + 2)) kd0 (r, h1) e1) rfl rfl (Nat.le_of_ble_eq_true rfl) ?_
  refine tk_aload_n G dL_law_229 1 rfl ?_
  refine tk_arg C G 1 dL_law_230 dL_law_231 dL_law_232 dL_law_233 dL_law_234 (by decide) (by omega) ?_
  refine tk_arg C G 2 dL_law_235 dL_law_236 dL_law_237 dL_law_238 dL_law_239 (by decide) (by omega) ?_
  refine tk_c9 (As := [.int (xs (k + 1)), .int (xs (k + 2))]) (st := [.int r]) C G dL_law_240 wY_X9_as wM_L_22 wI_X9_as wS_X9_as (by decide) (c_X9_as E h1 217 (xs (k + 1)) (xs (k + 2)) kd217 (r, h2) e2) rfl rfl (Nat.le_of_ble_eq_true rfl) ?_
  exact tk_icmp_eq (tgt := 1303) G dL_law_243 rfl (fun _ => K h2 I2) (fun q => absurd rfl q)
theorem lw_c2 (C : lwC E X b L xs n w) (G : tkG E X cL_law 4 RL ret) (hk : k + 5 < L) (I : Inv h) (K : ∀ h', Inv h' → tkV E X 4 n w Z 1303 (lwA E b k) [] tkF h') : tkV E X 4 n w Z 248 (lwA E b k) [] tkF h := by
  obtain ⟨r, h1, h2, e1, e2, I2⟩ := op_step I (xs (k + 1)) (xs (k + 2)) (xs (k + 3)) (xs (k + 4))
  refine tk_aload_n G dL_law_248 2 rfl ?_
  refine tk_arg C G 1 dL_law_249 dL_law_250 dL_law_251 dL_law_252 dL_law_253 (by decide) (by omega) ?_
  refine tk_arg C G 2 dL_law_254 dL_law_255 dL_law_256 dL_law_257 dL_law_258 (by decide) (by omega) ?_
  refine tk_arg C G 3 dL_law_259 dL_law_260 dL_law_261 dL_law_262 dL_law_263 (by decide) (by omega) ?_
  refine tk_arg C G 4 dL_law_264 dL_law_265 dL_law_266 dL_law_267 dL_law_268 (by decide) (by omega) ?_
  refine tk_c8 (As := [.int (xs (k + 1)), .int (xs (k + 2)), .int (xs (k + 3)), .int (xs (k + 4))]) (st := []) C G dL_law_269 wY_X8_step wM_L_23 wI_X8_step wS_X8_step (by decide) (c_X8_step E h 0 (xs (k + 1)) (xs (k + 2)) (xs (k + 3)) (xs (k + 4)) kd0 (r, h1) e1) rfl rfl (Nat.le_of_ble_eq_true rfl) ?_
  refine tk_aload_n G dL_law_272 1 rfl ?_
  refine tk_arg C G 1 dL_law_273 dL_law_274 dL_law_275 dL_law_276 dL_law_277 (by decide) (by omega) ?_
  refine tk_arg C G 2 dL_law_278 dL_law_279 dL_law_280 dL_law_281 dL_law_282 (by decide) (by omega) ?_
  refine tk_arg C G 3 dL_law_283 dL_law_284 dL_law_285 dL_law_286 dL_law_287 (by decide) (by omega) ?_
  refine tk_arg C G 4 dL_law_288 dL_law_289 dL_law_290 dL_law_291 dL_law_292 (by decide) (by omega) ?_
  refine tk_c9 (As := [.int (xs (k + 1)), .int (xs (k + 2)), .int (xs (k + 3)), .int (xs (k + 4))]) (st := [.int r]) C G dL_law_293 wY_X9_step wM_L_27 wI_X9_step wS_X9_step (by decide) (c_X9_step E h1 217 (xs (k + 1)) (xs (k + 2)) (xs (k + 3)) (xs (k + 4)) kd217 (r, h2) e2) rfl rfl (Nat.le_of_ble_eq_true rfl) ?_
  exact tk_icmp_eq (tgt := 1303) G dL_law_296 rfl (fun _ => K h2 I2) (fun q => absurd rfl q)
theorem lw_c3 (C : lwC E X b L xs n w) (G : tkG E X cL_law 4 RL ret) (hk : k + 5 < L) (I : Inv h) (K : ∀ h', Inv h' → tkV E X 4 n w Z 1303 (lwA E b k) [] tkF h') : tkV E X 4 n w Z 301 (lwA E b k) [] tkF h := by
  obtain ⟨r, h1, h2, e1, e2, I2⟩ := op_unstep I (xs (k + 1))
  refine tk_aload_n G dL_law_301 2 rfl ?_
  refine tk_arg C G 1 dL_law_302 dL_law_303 dL_law_304 dL_law_305 dL_law_306 (by decide) (by omega) ?_
  refine tk_c8 (As := [.int (xs (k + 1))]) (st := []) C G dL_law_307 wY_X8_unstep wM_L_28 wI_X8_unstep wS_X8_unstep (by decide) (c_X8_unstep E h 0 (xs (k + 1)) kd0 (r, h1) e1) rfl rfl (Nat.le_of_ble_eq_true rfl) ?_
  refine tk_aload_n G dL_law_310 1 rfl ?_
  refine tk_arg C G 1 dL_law_311 dL_law_312 dL_law_313 dL_law_314 dL_law_315 (by decide) (by omega) ?_
  refine tk_c9 (As := [.int (xs (k + 1))]) (st := [.int r]) C G dL_law_316 wY_X9_unstep wM_L_32 wI_X9_unstep wS_X9_unstep (by decide) (c_X9_unstep E h1 217 (xs (k + 1)) kd217 (r, h2) e2) rfl rfl (Nat.le_of_ble_eq_true rfl) ?_
  exact tk_icmp_eq (tgt := 1303) G dL_law_319 rfl (fun _ => K h2 I2) (fun q => absurd rfl q)
theorem lw_c4 (C : lwC E X b L xs n w) (G : tkG E X cL_law 4 RL ret) (hk : k + 5 < L) (I : Inv h) (K : ∀ h', Inv h' → tkV E X 4 n w Z 1303 (lwA E b k) [] tkF h') : tkV E X 4 n w Z 324 (lwA E b k) [] tkF h := by
  obtain ⟨r, h1, h2, e1, e2, I2⟩ := op_of I (xs (k + 1)) (xs (k + 2)) (xs (k + 3))
  refine tk_aload_n G dL_law_324 2 rfl ?_
  refine tk_arg C G 1 dL_law_325 dL_law_326 dL_law_327 dL_law_328 dL_law_329 (by decide) (by omega) ?_
  refine tk_arg C G 2 dL_law_330 dL_law_331 dL_law_332 dL_law_333 dL_law_334 (by decide) (by omega) ?_
  refine tk_arg C G 3 dL_law_335 dL_law_336 dL_law_337 dL_law_338 dL_law_339 (by decide) (by omega) ?_
  refine tk_c8 (As := [.int (xs (k + 1)), .int (xs (k + 2)), .int (xs (k + 3))]) (st := []) C G dL_law_340 wY_X8_of wM_L_33 wI_X8_of wS_X8_of (by decide) (c_X8_of E h 0 (xs (k + 1)) (xs (k + 2)) (xs (k + 3)) kd0 (r, h1) e1) rfl rfl (Nat.le_of_ble_eq_true rfl) ?_
  refine tk_aload_n G dL_law_343 1 rfl ?_
  refine tk_arg C G 1 dL_law_344 dL_law_345 dL_law_346 dL_law_347 dL_law_348 (by decide) (by omega) ?_
  refine tk_arg C G 2 dL_law_349 dL_law_350 dL_law_351 dL_law_352 dL_law_353 (by decide) (by omega) ?_
  refine tk_arg C G 3 dL_law_354 dL_law_355 dL_law_356 dL_law_357 dL_law_358 (by decide) (by omega) ?_
  refine tk_c9 (As := [.int (xs (k + 1)), .int (xs (k + 2)), .int (xs (k + 3))]) (st := [.int r]) C G dL_law_359 wY_X9_of wM_L_36 wI_X9_of wS_X9_of (by decide) (c_X9_of E h1 217 (xs (k + 1)) (xs (k + 2)) (xs (k + 3)) kd217 (r, h2) e2) rfl rfl (Nat.le_of_ble_eq_true rfl) ?_
  exact tk_icmp_eq (tgt := 1303) G dL_law_362 rfl (fun _ => K h2 I2) (fun q => absurd rfl q)
theorem lw_c5 (C : lwC E X b L xs n w) (G : tkG E X cL_law 4 RL ret) (hk : k + 5 < L) (I : Inv h) (K : ∀ h', Inv h' → tkV E X 4 n w Z 1303 (lwA E b k) [] tkF h') : tkV E X 4 n w Z 367 (lwA E b k) [] tkF h := by
  obtain ⟨r, h1, h2, e1, e2, I2⟩ := op_told I (xs (k + 1)) (xs (k + 2))
  refine tk_aload_n G dL_law_367 2 rfl ?_
  refine tk_arg C G 1 dL_law_368 dL_law_369 dL_law_370 dL_law_371 dL_law_372 (by decide) (by omega) ?_
  refine tk_arg C G 2 dL_law_373 dL_law_374 dL_law_375 dL_law_376 dL_law_377 (by decide) (by omega) ?_
  refine tk_c8 (As := [.int (xs (k + 1)), .int (xs (k + 2))]) (st := []) C G dL_law_378 wY_X8_told wM_L_37 wI_X8_told wS_X8_told (by decide) (c_X8_told E h 0 (xs (k + 1)) (xs (k + 2)) kd0 (r, h1) e1) rfl rfl (Nat.le_of_ble_eq_true rfl) ?_
  refine tk_aload_n G dL_law_381 1 rfl ?_
  refine tk_arg C G 1 dL_law_382 dL_law_383 dL_law_384 dL_law_385 dL_law_386 (by decide) (by omega) ?_
  refine tk_arg C G 2 dL_law_387 dL_law_388 dL_law_389 dL_law_390 dL_law_391 (by decide) (by omega) ?_
  refine tk_c9 (As := [.int (xs (k + 1)), .int (xs (k + 2))]) (st := [.int r]) C G dL_law_392 wY_X9_told wM_L_40 wI_X9_told wS_X9_told (by decide) (c_X9_told E h1 217 (xs (k + 1)) (xs (k + 2)) kd217 (r, h2) e2) rfl rfl (Nat.le_of_ble_eq_true rfl) ?_
  exact tk_icmp_eq (tgt := 1303) G dL_law_395 rfl (fun _ => K h2 I2) (fun q => absurd rfl q)
theorem lw_c6 (C : lwC E X b L xs n w) (G : tkG E X cL_law 4 RL ret) (hk : k + 5 < L) (I : Inv h) (K : ∀ h', Inv h' → tkV E X 4 n w Z 1303 (lwA E b k) [] tkF h') : tkV E X 4 n w Z 400 (lwA E b k) [] tkF h := by
  obtain ⟨r, h1, h2, e1, e2, I2⟩ := op_print I (xs (k + 1)) (xs (k + 2))
  refine tk_aload_n G dL_law_400 2 rfl ?_
  refine tk_arg C G 1 dL_law_401 dL_law_402 dL_law_403 dL_law_404 dL_law_405 (by decide) (by omega) ?_
  refine tk_arg C G 2 dL_law_406 dL_law_407 dL_law_408 dL_law_409 dL_law_410 (by decide) (by omega) ?_
  refine tk_c8 (As := [.int (xs (k + 1)), .int (xs (k + 2))]) (st := []) C G dL_law_411 wY_X8_print wM_L_41 wI_X8_print wS_X8_print (by decide) (c_X8_print E h 0 (xs (k + 1)) (xs (k + 2)) kd0 (r, h1) e1) rfl rfl (Nat.le_of_ble_eq_true rfl) ?_
  refine tk_aload_n G dL_law_414 1 rfl ?_
  refine tk_arg C G 1 dL_law_415 dL_law_416 dL_law_417 dL_law_418 dL_law_419 (by decide) (by omega) ?_
  refine tk_arg C G 2 dL_law_420 dL_law_421 dL_law_422 dL_law_423 dL_law_424 (by decide) (by omega) ?_
  refine tk_c9 (As := [.int (xs (k + 1)), .int (xs (k + 2))]) (st := [.int r]) C G dL_law_425 wY_X9_print wM_L_44 wI_X9_print wS_X9_print (by decide) (c_X9_print E h1 217 (xs (k + 1)) (xs (k + 2)) kd217 (r, h2) e2) rfl rfl (Nat.le_of_ble_eq_true rfl) ?_
  exact tk_icmp_eq (tgt := 1303) G dL_law_428 rfl (fun _ => K h2 I2) (fun q => absurd rfl q)
theorem lw_c7 (C : lwC E X b L xs n w) (G : tkG E X cL_law 4 RL ret) (hk : k + 5 < L) (I : Inv h) (K : ∀ h', Inv h' → tkV E X 4 n w Z 1303 (lwA E b k) [] tkF h') : tkV E X 4 n w Z 433 (lwA E b k) [] tkF h := by
  obtain ⟨r, h1, h2, e1, e2, I2⟩ := op_recode I (xs (k + 1)) (xs (k + 2))
  refine tk_aload_n G dL_law_433 2 rfl ?_
  refine tk_arg C G 1 dL_law_434 dL_law_435 dL_law_436 dL_law_437 dL_law_438 (by decide) (by omega) ?_
  refine tk_arg C G 2 dL_law_439 dL_law_440 dL_law_441 dL_law_442 dL_law_443 (by decide) (by omega) ?_
  refine tk_c8 (As := [.int (xs (k + 1)), .int (xs (k + 2))]) (st := []) C G dL_law_444 wY_X8_recode wM_L_45 wI_X8_recode wS_X8_recode (by decide) (c_X8_recode E h 0 (xs (k + 1)) (xs (k + 2)) kd0 (r, h1) e1) rfl rfl (Nat.le_of_ble_eq_true rfl) ?_
  refine tk_aload_n G dL_law_447 1 rfl ?_
  refine tk_arg C G 1 dL_law_448 dL_law_449 dL_law_450 dL_law_451 dL_law_452 (by decide) (by omega) ?_
  refine tk_arg C G 2 dL_law_453 dL_law_454 dL_law_455 dL_law_456 dL_law_457 (by decide) (by omega) ?_
  refine tk_c9 (As := [.int (xs (k + 1)), .int (xs (k + 2))]) (st := [.int r]) C G dL_law_458 wY_X9_recode wM_L_48 wI_X9_recode wS_X9_recode (by decide) (c_X9_recode E h1 217 (xs (k + 1)) (xs (k + 2)) kd217 (r, h2) e2) rfl rfl (Nat.le_of_ble_eq_true rfl) ?_
  exact tk_icmp_eq (tgt := 1303) G dL_law_461 rfl (fun _ => K h2 I2) (fun q => absurd rfl q)
theorem lw_c8 (C : lwC E X b L xs n w) (G : tkG E X cL_law 4 RL ret) (hk : k + 5 < L) (I : Inv h) (K : ∀ h', Inv h' → tkV E X 4 n w Z 1303 (lwA E b k) [] tkF h') : tkV E X 4 n w Z 466 (lwA E b k) [] tkF h := by
  obtain ⟨r, h1, h2, e1, e2, I2⟩ := op_price I (xs (k + 1)) (xs (k + 2))
  refine tk_aload_n G dL_law_466 2 rfl ?_
  refine tk_arg C G 1 dL_law_467 dL_law_468 dL_law_469 dL_law_470 dL_law_471 (by decide) (by omega) ?_
  refine tk_arg C G 2 dL_law_472 dL_law_473 dL_law_474 dL_law_475 dL_law_476 (by decide) (by omega) ?_
  refine tk_c8 (As := [.int (xs (k + 1)), .int (xs (k + 2))]) (st := []) C G dL_law_477 wY_X8_price wM_L_49 wI_X8_price wS_X8_price (by decide) (c_X8_price E h 0 (xs (k + 1)) (xs (k + 2)) kd0 (r, h1) e1) rfl rfl (Nat.le_of_ble_eq_true rfl) ?_
  refine tk_aload_n G dL_law_480 1 rfl ?_
  refine tk_arg C G 1 dL_law_481 dL_law_482 dL_law_483 dL_law_484 dL_law_485 (by decide) (by omega) ?_
  refine tk_arg C G 2 dL_law_486 dL_law_487 dL_law_488 dL_law_489 dL_law_490 (by decide) (by omega) ?_
  refine tk_c9 (As := [.int (xs (k + 1)), .int (xs (k + 2))]) (st := [.int r]) C G dL_law_491 wY_X9_price wM_L_52 wI_X9_price wS_X9_price (by decide) (c_X9_price E h1 217 (xs (k + 1)) (xs (k + 2)) kd217 (r, h2) e2) rfl rfl (Nat.le_of_ble_eq_true rfl) ?_
  exact tk_icmp_eq (tgt := 1303) G dL_law_494 rfl (fun _ => K h2 I2) (fun q => absurd rfl q)
theorem lw_c9 (C : lwC E X b L xs n w) (G : tkG E X cL_law 4 RL ret) (hk : k + 5 < L) (I : Inv h) (K : ∀ h', Inv h' → tkV E X 4 n w Z 1303 (lwA E b k) [] tkF h') : tkV E X 4 n w Z 499 (lwA E b k) [] tkF h := by
  obtain ⟨r, h1, h2, e1, e2, I2⟩ := op_way I (xs (k + 1)) (xs (k + 2)) (xs (k + 3))
  refine tk_aload_n G dL_law_499 2 rfl ?_
  refine tk_arg C G 1 dL_law_500 dL_law_501 dL_law_502 dL_law_503 dL_law_504 (by decide) (by omega) ?_
  refine tk_arg C G 2 dL_law_505 dL_law_506 dL_law_507 dL_law_508 dL_law_509 (by decide) (by omega) ?_
  refine tk_arg C G 3 dL_law_510 dL_law_511 dL_law_512 dL_law_513 dL_law_514 (by decide) (by omega) ?_
  refine tk_c8 (As := [.int (xs (k + 1)), .int (xs (k + 2)), .int (xs (k + 3))]) (st := []) C G dL_law_515 wY_X8_way wM_L_53 wI_X8_way wS_X8_way (by decide) (c_X8_way E h 0 (xs (k + 1)) (xs (k + 2)) (xs (k + 3)) kd0 (r, h1) e1) rfl rfl (Nat.le_of_ble_eq_true rfl) ?_
  refine tk_aload_n G dL_law_518 1 rfl ?_
  refine tk_arg C G 1 dL_law_519 dL_law_520 dL_law_521 dL_law_522 dL_law_523 (by decide) (by omega) ?_
  refine tk_arg C G 2 dL_law_524 dL_law_525 dL_law_526 dL_law_527 dL_law_528 (by decide) (by omega) ?_
  refine tk_arg C G 3 dL_law_529 dL_law_530 dL_law_531 dL_law_532 dL_law_533 (by decide) (by omega) ?_
  refine tk_c9 (As := [.int (xs (k + 1)), .int (xs (k + 2)), .int (xs (k + 3))]) (st := [.int r]) C G dL_law_534 wY_X9_way wM_L_56 wI_X9_way wS_X9_way (by decide) (c_X9_way E h1 217 (xs (k + 1)) (xs (k + 2)) (xs (k + 3)) kd217 (r, h2) e2) rfl rfl (Nat.le_of_ble_eq_true rfl) ?_
  exact tk_icmp_eq (tgt := 1303) G dL_law_537 rfl (fun _ => K h2 I2) (fun q => absurd rfl q)
theorem lw_c10 (C : lwC E X b L xs n w) (G : tkG E X cL_law 4 RL ret) (hk : k + 5 < L) (I : Inv h) (K : ∀ h', Inv h' → tkV E X 4 n w Z 1303 (lwA E b k) [] tkF h') : tkV E X 4 n w Z 542 (lwA E b k) [] tkF h := by
  obtain ⟨r, h1, h2, e1, e2, I2⟩ := op_cost I (xs (k + 1)) (xs (k + 2))
  refine tk_aload_n G dL_law_542 2 rfl ?_
  refine tk_arg C G 1 dL_law_543 dL_law_544 dL_law_545 dL_law_546 dL_law_547 (by decide) (by omega) ?_
  refine tk_arg C G 2 dL_law_548 dL_law_549 dL_law_550 dL_law_551 dL_law_552 (by decide) (by omega) ?_
  refine tk_c8 (As := [.int (xs (k + 1)), .int (xs (k + 2))]) (st := []) C G dL_law_553 wY_X8_cost wM_L_57 wI_X8_cost wS_X8_cost (by decide) (c_X8_cost E h 0 (xs (k + 1)) (xs (k + 2)) kd0 (r, h1) e1) rfl rfl (Nat.le_of_ble_eq_true rfl) ?_
  refine tk_aload_n G dL_law_556 1 rfl ?_
  refine tk_arg C G 1 dL_law_557 dL_law_558 dL_law_559 dL_law_560 dL_law_561 (by decide) (by omega) ?_
  refine tk_arg C G 2 dL_law_562 dL_law_563 dL_law_564 dL_law_565 dL_law_566 (by decide) (by omega) ?_
  refine tk_c9 (As := [.int (xs (k + 1)), .int (xs (k + 2))]) (st := [.int r]) C G dL_law_567 wY_X9_cost wM_L_60 wI_X9_cost wS_X9_cost (by decide) (c_X9_cost E h1 217 (xs (k + 1)) (xs (k + 2)) kd217 (r, h2) e2) rfl rfl (Nat.le_of_ble_eq_true rfl) ?_
  exact tk_icmp_eq (tgt := 1303) G dL_law_570 rfl (fun _ => K h2 I2) (fun q => absurd rfl q)
theorem lw_c11 (C : lwC E X b L xs n w) (G : tkG E X cL_law 4 RL ret) (hk : k + 5 < L) (I : Inv h) (K : ∀ h', Inv h' → tkV E X 4 n w Z 1303 (lwA E b k) [] tkF h') : tkV E X 4 n w Z 575 (lwA E b k) [] tkF h := by
  obtain ⟨r, h1, h2, e1, e2, I2⟩ := op_carried I (xs (k + 1)) (xs (k + 2)) (xs (k + 3))
  refine tk_aload_n G dL_law_575 2 rfl ?_
  refine tk_arg C G 1 dL_law_576 dL_law_577 dL_law_578 dL_law_579 dL_law_580 (by decide) (by omega) ?_
  refine tk_arg C G 2 dL_law_581 dL_law_582 dL_law_583 dL_law_584 dL_law_585 (by decide) (by omega) ?_
  refine tk_arg C G 3 dL_law_586 dL_law_587 dL_law_588 dL_law_589 dL_law_590 (by decide) (by omega) ?_
  refine tk_c8 (As := [.int (xs (k + 1)), .int (xs (k + 2)), .int (xs (k + 3))]) (st := []) C G dL_law_591 wY_X8_carried wM_L_61 wI_X8_carried wS_X8_carried (by decide) (c_X8_carried E h 0 (xs (k + 1)) (xs (k + 2)) (xs (k + 3)) kd0 (r, h1) e1) rfl rfl (Nat.le_of_ble_eq_true rfl) ?_
  refine tk_aload_n G dL_law_594 1 rfl ?_
  refine tk_arg C G 1 dL_law_595 dL_law_596 dL_law_597 dL_law_598 dL_law_599 (by decide) (by omega) ?_
  refine tk_arg C G 2 dL_law_600 dL_law_601 dL_law_602 dL_law_603 dL_law_604 (by decide) (by omega) ?_
  refine tk_arg C G 3 dL_law_605 dL_law_606 dL_law_607 dL_law_608 dL_law_609 (by decide) (by omega) ?_
  refine tk_c9 (As := [.int (xs (k + 1)), .int (xs (k + 2)), .int (xs (k + 3))]) (st := [.int r]) C G dL_law_610 wY_X9_carried wM_L_64 wI_X9_carried wS_X9_carried (by decide) (c_X9_carried E h1 217 (xs (k + 1)) (xs (k + 2)) (xs (k + 3)) kd217 (r, h2) e2) rfl rfl (Nat.le_of_ble_eq_true rfl) ?_
  exact tk_icmp_eq (tgt := 1303) G dL_law_613 rfl (fun _ => K h2 I2) (fun q => absurd rfl q)
theorem lw_c12 (C : lwC E X b L xs n w) (G : tkG E X cL_law 4 RL ret) (hk : k + 5 < L) (I : Inv h) (K : ∀ h', Inv h' → tkV E X 4 n w Z 1303 (lwA E b k) [] tkF h') : tkV E X 4 n w Z 618 (lwA E b k) [] tkF h := by
  obtain ⟨r, h1, h2, e1, e2, I2⟩ := op_pair I (xs (k + 1)) (xs (k + 2)) (xs (k + 3))
  refine tk_aload_n G dL_law_618 2 rfl ?_
  refine tk_arg C G 1 dL_law_619 dL_law_620 dL_law_621 dL_law_622 dL_law_623 (by decide) (by omega) ?_
  refine tk_arg C G 2 dL_law_624 dL_law_625 dL_law_626 dL_law_627 dL_law_628 (by decide) (by omega) ?_
  refine tk_arg C G 3 dL_law_629 dL_law_630 dL_law_631 dL_law_632 dL_law_633 (by decide) (by omega) ?_
  refine tk_c8 (As := [.int (xs (k + 1)), .int (xs (k + 2)), .int (xs (k + 3))]) (st := []) C G dL_law_634 wY_X8_pair wM_L_65 wI_X8_pair wS_X8_pair (by decide) (c_X8_pair E h 0 (xs (k + 1)) (xs (k + 2)) (xs (k + 3)) kd0 (r, h1) e1) rfl rfl (Nat.le_of_ble_eq_true rfl) ?_
  refine tk_aload_n G dL_law_637 1 rfl ?_
  refine tk_arg C G 1 dL_law_638 dL_law_639 dL_law_640 dL_law_641 dL_law_642 (by decide) (by omega) ?_
  refine tk_arg C G 2 dL_law_643 dL_law_644 dL_law_645 dL_law_646 dL_law_647 (by decide) (by omega) ?_
  refine tk_arg C G 3 dL_law_648 dL_law_649 dL_law_650 dL_law_651 dL_law_652 (by decide) (by omega) ?_
  refine tk_c9 (As := [.int (xs (k + 1)), .int (xs (k + 2)), .int (xs (k + 3))]) (st := [.int r]) C G dL_law_653 wY_X9_pair wM_L_68 wI_X9_pair wS_X9_pair (by decide) (c_X9_pair E h1 217 (xs (k + 1)) (xs (k + 2)) (xs (k + 3)) kd217 (r, h2) e2) rfl rfl (Nat.le_of_ble_eq_true rfl) ?_
  exact tk_icmp_eq (tgt := 1303) G dL_law_656 rfl (fun _ => K h2 I2) (fun q => absurd rfl q)
theorem lw_c13 (C : lwC E X b L xs n w) (G : tkG E X cL_law 4 RL ret) (hk : k + 5 < L) (I : Inv h) (K : ∀ h', Inv h' → tkV E X 4 n w Z 1303 (lwA E b k) [] tkF h') : tkV E X 4 n w Z 661 (lwA E b k) [] tkF h := by
  obtain ⟨r, h1, h2, e1, e2, I2⟩ := op_pairs I (xs (k + 1)) (xs (k + 2)) (if xs (k + 3) = 0 then 0 else 1)
  refine tk_aload_n G dL_law_661 2 rfl ?_
  refine tk_arg C G 1 dL_law_662 dL_law_663 dL_law_664 dL_law_665 dL_law_666 (by decide) (by omega) ?_
  refine tk_arg C G 2 dL_law_667 dL_law_668 dL_law_669 dL_law_670 dL_law_671 (by decide) (by omega) ?_
  refine tk_argZ C G 3 dL_law_672 dL_law_673 dL_law_674 dL_law_675 dL_law_676 dL_law_677 dL_law_680 dL_law_681 dL_law_684 (by decide) (by omega) ?_
  refine tk_c8 (As := [.int (xs (k + 1)), .int (xs (k + 2)), .int (if xs (k + 3) = 0 then 0 else 1)]) (st := []) C G dL_law_685 wY_X8_pairs wM_L_69 wI_X8_pairs wS_X8_pairs (by decide) (c_X8_pairs E h 0 (xs (k + 1)) (xs (k + 2)) (if xs (k + 3) = 0 then 0 else 1) kd0 (r, h1) e1) rfl rfl (Nat.le_of_ble_eq_true rfl) ?_
  refine tk_aload_n G dL_law_688 1 rfl ?_
  refine tk_arg C G 1 dL_law_689 dL_law_690 dL_law_691 dL_law_692 dL_law_693 (by decide) (by omega) ?_
  refine tk_arg C G 2 dL_law_694 dL_law_695 dL_law_696 dL_law_697 dL_law_698 (by decide) (by omega) ?_
  refine tk_argZ C G 3 dL_law_699 dL_law_700 dL_law_701 dL_law_702 dL_law_703 dL_law_704 dL_law_707 dL_law_708 dL_law_711 (by decide) (by omega) ?_
  refine tk_c9 (As := [.int (xs (k + 1)), .int (xs (k + 2)), .int (if xs (k + 3) = 0 then 0 else 1)]) (st := [.int r]) C G dL_law_712 wY_X9_pairs wM_L_73 wI_X9_pairs wS_X9_pairs (by decide) (c_X9_pairs E h1 217 (xs (k + 1)) (xs (k + 2)) (if xs (k + 3) = 0 then 0 else 1) kd217 (r, h2) e2) rfl rfl (Nat.le_of_ble_eq_true rfl) ?_
  exact tk_icmp_eq (tgt := 1303) G dL_law_715 rfl (fun _ => K h2 I2) (fun q => absurd rfl q)
theorem lw_c14 (C : lwC E X b L xs n w) (G : tkG E X cL_law 4 RL ret) (hk : k + 5 < L) (I : Inv h) (K : ∀ h', Inv h' → tkV E X 4 n w Z 1303 (lwA E b k) [] tkF h') : tkV E X 4 n w Z 720 (lwA E b k) [] tkF h := by
  obtain ⟨r, h1, h2, e1, e2, I2⟩ := op_mould I (xs (k + 1))
  refine tk_aload_n G dL_law_720 2 rfl ?_
  refine tk_arg C G 1 dL_law_721 dL_law_722 dL_law_723 dL_law_724 dL_law_725 (by decide) (by omega) ?_
  refine tk_c8 (As := [.int (xs (k + 1))]) (st := []) C G dL_law_726 wY_X8_mould wM_L_74 wI_X8_mould wS_X8_mould (by decide) (c_X8_mould E h 0 (xs (k + 1)) kd0 (r, h1) e1) rfl rfl (Nat.le_of_ble_eq_true rfl) ?_
  refine tk_aload_n G dL_law_729 1 rfl ?_
  refine tk_arg C G 1 dL_law_730 dL_law_731 dL_law_732 dL_law_733 dL_law_734 (by decide) (by omega) ?_
  refine tk_c9 (As := [.int (xs (k + 1))]) (st := [.int r]) C G dL_law_735 wY_X9_mould wM_L_77 wI_X9_mould wS_X9_mould (by decide) (c_X9_mould E h1 217 (xs (k + 1)) kd217 (r, h2) e2) rfl rfl (Nat.le_of_ble_eq_true rfl) ?_
  exact tk_icmp_eq (tgt := 1303) G dL_law_738 rfl (fun _ => K h2 I2) (fun q => absurd rfl q)
theorem lw_c15 (C : lwC E X b L xs n w) (G : tkG E X cL_law 4 RL ret) (hk : k + 5 < L) (I : Inv h) (K : ∀ h', Inv h' → tkV E X 4 n w Z 1303 (lwA E b k) [] tkF h') : tkV E X 4 n w Z 743 (lwA E b k) [] tkF h := by
  obtain ⟨r, h1, h2, e1, e2, I2⟩ := op_spread I (xs (k + 1))
  refine tk_aload_n G dL_law_743 2 rfl ?_
  refine tk_arg C G 1 dL_law_744 dL_law_745 dL_law_746 dL_law_747 dL_law_748 (by decide) (by omega) ?_
  refine tk_c8 (As := [.int (xs (k + 1))]) (st := []) C G dL_law_749 wY_X8_spread wM_L_78 wI_X8_spread wS_X8_spread (by decide) (c_X8_spread E h 0 (xs (k + 1)) kd0 (r, h1) e1) rfl rfl (Nat.le_of_ble_eq_true rfl) ?_
  refine tk_aload_n G dL_law_752 1 rfl ?_
  refine tk_arg C G 1 dL_law_753 dL_law_754 dL_law_755 dL_law_756 dL_law_757 (by decide) (by omega) ?_
  refine tk_c9 (As := [.int (xs (k + 1))]) (st := [.int r]) C G dL_law_758 wY_X9_spread wM_L_81 wI_X9_spread wS_X9_spread (by decide) (c_X9_spread E h1 217 (xs (k + 1)) kd217 (r, h2) e2) rfl rfl (Nat.le_of_ble_eq_true rfl) ?_
  exact tk_icmp_eq (tgt := 1303) G dL_law_761 rfl (fun _ => K h2 I2) (fun q => absurd rfl q)
theorem lw_c16 (C : lwC E X b L xs n w) (G : tkG E X cL_law 4 RL ret) (hk : k + 5 < L) (I : Inv h) (K : ∀ h', Inv h' → tkV E X 4 n w Z 1303 (lwA E b k) [] tkF h') : tkV E X 4 n w Z 766 (lwA E b k) [] tkF h := by
  obtain ⟨r, h1, h2, e1, e2, I2⟩ := op_tree I (xs (k + 1))
  refine tk_aload_n G dL_law_766 2 rfl ?_
  refine tk_arg C G 1 dL_law_767 dL_law_768 dL_law_769 dL_law_770 dL_law_771 (by decide) (by omega) ?_
  refine tk_c8 (As := [.int (xs (k + 1))]) (st := []) C G dL_law_772 wY_X8_tree wM_L_82 wI_X8_tree wS_X8_tree (by decide) (c_X8_tree E h 0 (xs (k + 1)) kd0 (r, h1) e1) rfl rfl (Nat.le_of_ble_eq_true rfl) ?_
  refine tk_aload_n G dL_law_775 1 rfl ?_
  refine tk_arg C G 1 dL_law_776 dL_law_777 dL_law_778 dL_law_779 dL_law_780 (by decide) (by omega) ?_
  refine tk_c9 (As := [.int (xs (k + 1))]) (st := [.int r]) C G dL_law_781 wY_X9_tree wM_L_85 wI_X9_tree wS_X9_tree (by decide) (c_X9_tree E h1 217 (xs (k + 1)) kd217 (r, h2) e2) rfl rfl (Nat.le_of_ble_eq_true rfl) ?_
  exact tk_icmp_eq (tgt := 1303) G dL_law_784 rfl (fun _ => K h2 I2) (fun q => absurd rfl q)
theorem lw_c17 (C : lwC E X b L xs n w) (G : tkG E X cL_law 4 RL ret) (hk : k + 5 < L) (I : Inv h) (K : ∀ h', Inv h' → tkV E X 4 n w Z 1303 (lwA E b k) [] tkF h') : tkV E X 4 n w Z 789 (lwA E b k) [] tkF h := by
  obtain ⟨r, h1, h2, e1, e2, I2⟩ := op_branch I (xs (k + 1)) (xs (k + 2))
  refine tk_aload_n G dL_law_789 2 rfl ?_
  refine tk_arg C G 1 dL_law_790 dL_law_791 dL_law_792 dL_law_793 dL_law_794 (by decide) (by omega) ?_
  refine tk_arg C G 2 dL_law_795 dL_law_796 dL_law_797 dL_law_798 dL_law_799 (by decide) (by omega) ?_
  refine tk_c8 (As := [.int (xs (k + 1)), .int (xs (k + 2))]) (st := []) C G dL_law_800 wY_X8_branch wM_L_86 wI_X8_branch wS_X8_branch (by decide) (c_X8_branch E h 0 (xs (k + 1)) (xs (k + 2)) kd0 (r, h1) e1) rfl rfl (Nat.le_of_ble_eq_true rfl) ?_
  refine tk_aload_n G dL_law_803 1 rfl ?_
  refine tk_arg C G 1 dL_law_804 dL_law_805 dL_law_806 dL_law_807 dL_law_808 (by decide) (by omega) ?_
  refine tk_arg C G 2 dL_law_809 dL_law_810 dL_law_811 dL_law_812 dL_law_813 (by decide) (by omega) ?_
  refine tk_c9 (As := [.int (xs (k + 1)), .int (xs (k + 2))]) (st := [.int r]) C G dL_law_814 wY_X9_branch wM_L_89 wI_X9_branch wS_X9_branch (by decide) (c_X9_branch E h1 217 (xs (k + 1)) (xs (k + 2)) kd217 (r, h2) e2) rfl rfl (Nat.le_of_ble_eq_true rfl) ?_
  exact tk_icmp_eq (tgt := 1303) G dL_law_817 rfl (fun _ => K h2 I2) (fun q => absurd rfl q)
theorem lw_c18 (C : lwC E X b L xs n w) (G : tkG E X cL_law 4 RL ret) (hk : k + 5 < L) (I : Inv h) (K : ∀ h', Inv h' → tkV E X 4 n w Z 1303 (lwA E b k) [] tkF h') : tkV E X 4 n w Z 822 (lwA E b k) [] tkF h := by
  obtain ⟨r, h1, h2, e1, e2, I2⟩ := op_nearest I (xs (k + 1))
  refine tk_aload_n G dL_law_822 2 rfl ?_
  refine tk_arg C G 1 dL_law_823 dL_law_824 dL_law_825 dL_law_826 dL_law_827 (by decide) (by omega) ?_
  refine tk_c8 (As := [.int (xs (k + 1))]) (st := []) C G dL_law_828 wY_X8_nearest wM_L_90 wI_X8_nearest wS_X8_nearest (by decide) (c_X8_nearest E h 0 (xs (k + 1)) kd0 (r, h1) e1) rfl rfl (Nat.le_of_ble_eq_true rfl) ?_
  refine tk_aload_n G dL_law_831 1 rfl ?_
  refine tk_arg C G 1 dL_law_832 dL_law_833 dL_law_834 dL_law_835 dL_law_836 (by decide) (by omega) ?_
  refine tk_c9 (As := [.int (xs (k + 1))]) (st := [.int r]) C G dL_law_837 wY_X9_nearest wM_L_93 wI_X9_nearest wS_X9_nearest (by decide) (c_X9_nearest E h1 217 (xs (k + 1)) kd217 (r, h2) e2) rfl rfl (Nat.le_of_ble_eq_true rfl) ?_
  exact tk_icmp_eq (tgt := 1303) G dL_law_840 rfl (fun _ => K h2 I2) (fun q => absurd rfl q)
theorem lw_c19 (C : lwC E X b L xs n w) (G : tkG E X cL_law 4 RL ret) (hk : k + 5 < L) (I : Inv h) (K : ∀ h', Inv h' → tkV E X 4 n w Z 1303 (lwA E b k) [] tkF h') : tkV E X 4 n w Z 845 (lwA E b k) [] tkF h := by
  obtain ⟨r, h1, h2, e1, e2, I2⟩ := op_source I (xs (k + 1))
  refine tk_aload_n G dL_law_845 2 rfl ?_
  refine tk_arg C G 1 dL_law_846 dL_law_847 dL_law_848 dL_law_849 dL_law_850 (by decide) (by omega) ?_
  refine tk_c8 (As := [.int (xs (k + 1))]) (st := []) C G dL_law_851 wY_X8_source wM_L_94 wI_X8_source wS_X8_source (by decide) (c_X8_source E h 0 (xs (k + 1)) kd0 (r, h1) e1) rfl rfl (Nat.le_of_ble_eq_true rfl) ?_
  refine tk_aload_n G dL_law_854 1 rfl ?_
  refine tk_arg C G 1 dL_law_855 dL_law_856 dL_law_857 dL_law_858 dL_law_859 (by decide) (by omega) ?_
  refine tk_c9 (As := [.int (xs (k + 1))]) (st := [.int r]) C G dL_law_860 wY_X9_source wM_L_97 wI_X9_source wS_X9_source (by decide) (c_X9_source E h1 217 (xs (k + 1)) kd217 (r, h2) e2) rfl rfl (Nat.le_of_ble_eq_true rfl) ?_
  exact tk_icmp_eq (tgt := 1303) G dL_law_863 rfl (fun _ => K h2 I2) (fun q => absurd rfl q)
theorem lw_c20 (C : lwC E X b L xs n w) (G : tkG E X cL_law 4 RL ret) (hk : k + 5 < L) (I : Inv h) (K : ∀ h', Inv h' → tkV E X 4 n w Z 1303 (lwA E b k) [] tkF h') : tkV E X 4 n w Z 868 (lwA E b k) [] tkF h := by
  obtain ⟨r, h1, h2, e1, e2, I2⟩ := op_first I (xs (k + 1))
  refine tk_aload_n G dL_law_868 2 rfl ?_
  refine tk_arg C G 1 dL_law_869 dL_law_870 dL_law_871 dL_law_872 dL_law_873 (by decide) (by omega) ?_
  refine tk_c8 (As := [.int (xs (k + 1))]) (st := []) C G dL_law_874 wY_X8_first wM_L_98 wI_X8_first wS_X8_first (by decide) (c_X8_first E h 0 (xs (k + 1)) kd0 (r, h1) e1) rfl rfl (Nat.le_of_ble_eq_true rfl) ?_
  refine tk_aload_n G dL_law_877 1 rfl ?_
  refine tk_arg C G 1 dL_law_878 dL_law_879 dL_law_880 dL_law_881 dL_law_882 (by decide) (by omega) ?_
  refine tk_c9 (As := [.int (xs (k + 1))]) (st := [.int r]) C G dL_law_883 wY_X9_first wM_L_101 wI_X9_first wS_X9_first (by decide) (c_X9_first E h1 217 (xs (k + 1)) kd217 (r, h2) e2) rfl rfl (Nat.le_of_ble_eq_true rfl) ?_
  exact tk_icmp_eq (tgt := 1303) G dL_law_886 rfl (fun _ => K h2 I2) (fun q => absurd rfl q)
theorem lw_c21 (C : lwC E X b L xs n w) (G : tkG E X cL_law 4 RL ret) (hk : k + 5 < L) (I : Inv h) (K : ∀ h', Inv h' → tkV E X 4 n w Z 1303 (lwA E b k) [] tkF h') : tkV E X 4 n w Z 891 (lwA E b k) [] tkF h := by
  obtain ⟨r, h1, h2, e1, e2, I2⟩ := op_borrowed I (xs (k + 1)) (xs (k + 2)) (xs (k + 3))
  refine tk_aload_n G dL_law_891 2 rfl ?_
  refine tk_arg C G 1 dL_law_892 dL_law_893 dL_law_894 dL_law_895 dL_law_896 (by decide) (by omega) ?_
  refine tk_arg C G 2 dL_law_897 dL_law_898 dL_law_899 dL_law_900 dL_law_901 (by decide) (by omega) ?_
  refine tk_arg C G 3 dL_law_902 dL_law_903 dL_law_904 dL_law_905 dL_law_906 (by decide) (by omega) ?_
  refine tk_c8 (As := [.int (xs (k + 1)), .int (xs (k + 2)), .int (xs (k + 3))]) (st := []) C G dL_law_907 wY_X8_borrowed wM_L_102 wI_X8_borrowed wS_X8_borrowed (by decide) (c_X8_borrowed E h 0 (xs (k + 1)) (xs (k + 2)) (xs (k + 3)) kd0 (r, h1) e1) rfl rfl (Nat.le_of_ble_eq_true rfl) ?_
  refine tk_aload_n G dL_law_910 1 rfl ?_
  refine tk_arg C G 1 dL_law_911 dL_law_912 dL_law_913 dL_law_914 dL_law_915 (by decide) (by omega) ?_
  refine tk_arg C G 2 dL_law_916 dL_law_917 dL_law_918 dL_law_919 dL_law_920 (by decide) (by omega) ?_
  refine tk_arg C G 3 dL_law_921 dL_law_922 dL_law_923 dL_law_924 dL_law_925 (by decide) (by omega) ?_
  refine tk_c9 (As := [.int (xs (k + 1)), .int (xs (k + 2)), .int (xs (k + 3))]) (st := [.int r]) C G dL_law_926 wY_X9_borrowed wM_L_105 wI_X9_borrowed wS_X9_borrowed (by decide) (c_X9_borrowed E h1 217 (xs (k + 1)) (xs (k + 2)) (xs (k + 3)) kd217 (r, h2) e2) rfl rfl (Nat.le_of_ble_eq_true rfl) ?_
  exact tk_icmp_eq (tgt := 1303) G dL_law_929 rfl (fun _ => K h2 I2) (fun q => absurd rfl q)
theorem lw_c22 (C : lwC E X b L xs n w) (G : tkG E X cL_law 4 RL ret) (hk : k + 5 < L) (I : Inv h) (K : ∀ h', Inv h' → tkV E X 4 n w Z 1303 (lwA E b k) [] tkF h') : tkV E X 4 n w Z 934 (lwA E b k) [] tkF h := by
  obtain ⟨r, h1, h2, e1, e2, I2⟩ := op_joined I (xs (k + 1)) (xs (k + 2)) (xs (k + 3)) (if xs (k + 4) = 0 then 0 else 1)
  refine tk_aload_n G dL_law_934 2 rfl ?_
  refine tk_arg C G 1 dL_law_935 dL_law_936 dL_law_937 dL_law_938 dL_law_939 (by decide) (by omega) ?_
  refine tk_arg C G 2 dL_law_940 dL_law_941 dL_law_942 dL_law_943 dL_law_944 (by decide) (by omega) ?_
  refine tk_arg C G 3 dL_law_945 dL_law_946 dL_law_947 dL_law_948 dL_law_949 (by decide) (by omega) ?_
  refine tk_argZ C G 4 dL_law_950 dL_law_951 dL_law_952 dL_law_953 dL_law_954 dL_law_955 dL_law_958 dL_law_959 dL_law_962 (by decide) (by omega) ?_
  refine tk_c8 (As := [.int (xs (k + 1)), .int (xs (k + 2)), .int (xs (k + 3)), .int (if xs (k + 4) = 0 then 0 else 1)]) (st := []) C G dL_law_963 wY_X8_joined wM_L_106 wI_X8_joined wS_X8_joined (by decide) (c_X8_joined E h 0 (xs (k + 1)) (xs (k + 2)) (xs (k + 3)) (if xs (k + 4) = 0 then 0 else 1) kd0 (r, h1) e1) rfl rfl (Nat.le_of_ble_eq_true rfl) ?_
  refine tk_aload_n G dL_law_966 1 rfl ?_
  refine tk_arg C G 1 dL_law_967 dL_law_968 dL_law_969 dL_law_970 dL_law_971 (by decide) (by omega) ?_
  refine tk_arg C G 2 dL_law_972 dL_law_973 dL_law_974 dL_law_975 dL_law_976 (by decide) (by omega) ?_
  refine tk_arg C G 3 dL_law_977 dL_law_978 dL_law_979 dL_law_980 dL_law_981 (by decide) (by omega) ?_
  refine tk_argZ C G 4 dL_law_982 dL_law_983 dL_law_984 dL_law_985 dL_law_986 dL_law_987 dL_law_990 dL_law_991 dL_law_994 (by decide) (by omega) ?_
  refine tk_c9 (As := [.int (xs (k + 1)), .int (xs (k + 2)), .int (xs (k + 3)), .int (if xs (k + 4) = 0 then 0 else 1)]) (st := [.int r]) C G dL_law_995 wY_X9_joined wM_L_110 wI_X9_joined wS_X9_joined (by decide) (c_X9_joined E h1 217 (xs (k + 1)) (xs (k + 2)) (xs (k + 3)) (if xs (k + 4) = 0 then 0 else 1) kd217 (r, h2) e2) rfl rfl (Nat.le_of_ble_eq_true rfl) ?_
  exact tk_icmp_eq (tgt := 1303) G dL_law_998 rfl (fun _ => K h2 I2) (fun q => absurd rfl q)
theorem lw_c23 (C : lwC E X b L xs n w) (G : tkG E X cL_law 4 RL ret) (hk : k + 5 < L) (I : Inv h) (K : ∀ h', Inv h' → tkV E X 4 n w Z 1303 (lwA E b k) [] tkF h') : tkV E X 4 n w Z 1003 (lwA E b k) [] tkF h := by
  obtain ⟨r, h1, h2, e1, e2, I2⟩ := op_count I (xs (k + 1)) (xs (k + 2)) (if xs (k + 3) = 0 then 0 else 1)
  refine tk_aload_n G dL_law_1003 2 rfl ?_
  refine tk_arg C G 1 dL_law_1004 dL_law_1005 dL_law_1006 dL_law_1007 dL_law_1008 (by decide) (by omega) ?_
  refine tk_arg C G 2 dL_law_1009 dL_law_1010 dL_law_1011 dL_law_1012 dL_law_1013 (by decide) (by omega) ?_
  refine tk_argZ C G 3 dL_law_1014 dL_law_1015 dL_law_1016 dL_law_1017 dL_law_1018 dL_law_1019 dL_law_1022 dL_law_1023 dL_law_1026 (by decide) (by omega) ?_
  refine tk_c8 (As := [.int (xs (k + 1)), .int (xs (k + 2)), .int (if xs (k + 3) = 0 then 0 else 1)]) (st := []) C G dL_law_1027 wY_X8_count wM_L_111 wI_X8_count wS_X8_count (by decide) (c_X8_count E h 0 (xs (k + 1)) (xs (k + 2)) (if xs (k + 3) = 0 then 0 else 1) kd0 (r, h1) e1) rfl rfl (Nat.le_of_ble_eq_true rfl) ?_
  refine tk_aload_n G dL_law_1030 1 rfl ?_
  refine tk_arg C G 1 dL_law_1031 dL_law_1032 dL_law_1033 dL_law_1034 dL_law_1035 (by decide) (by omega) ?_
  refine tk_arg C G 2 dL_law_1036 dL_law_1037 dL_law_1038 dL_law_1039 dL_law_1040 (by decide) (by omega) ?_
  refine tk_argZ C G 3 dL_law_1041 dL_law_1042 dL_law_1043 dL_law_1044 dL_law_1045 dL_law_1046 dL_law_1049 dL_law_1050 dL_law_1053 (by decide) (by omega) ?_
  refine tk_c9 (As := [.int (xs (k + 1)), .int (xs (k + 2)), .int (if xs (k + 3) = 0 then 0 else 1)]) (st := [.int r]) C G dL_law_1054 wY_X9_count wM_L_114 wI_X9_count wS_X9_count (by decide) (c_X9_count E h1 217 (xs (k + 1)) (xs (k + 2)) (if xs (k + 3) = 0 then 0 else 1) kd217 (r, h2) e2) rfl rfl (Nat.le_of_ble_eq_true rfl) ?_
  exact tk_icmp_eq (tgt := 1303) G dL_law_1057 rfl (fun _ => K h2 I2) (fun q => absurd rfl q)
theorem lw_c24 (C : lwC E X b L xs n w) (G : tkG E X cL_law 4 RL ret) (hk : k + 5 < L) (I : Inv h) (K : ∀ h', Inv h' → tkV E X 4 n w Z 1303 (lwA E b k) [] tkF h') : tkV E X 4 n w Z 1062 (lwA E b k) [] tkF h := by
  obtain ⟨r, h1, h2, e1, e2, I2⟩ := op_home I (xs (k + 1))
  refine tk_aload_n G dL_law_1062 2 rfl ?_
  refine tk_arg C G 1 dL_law_1063 dL_law_1064 dL_law_1065 dL_law_1066 dL_law_1067 (by decide) (by omega) ?_
  refine tk_c8 (As := [.int (xs (k + 1))]) (st := []) C G dL_law_1068 wY_X8_home wM_L_115 wI_X8_home wS_X8_home (by decide) (c_X8_home E h 0 (xs (k + 1)) kd0 (r, h1) e1) rfl rfl (Nat.le_of_ble_eq_true rfl) ?_
  refine tk_aload_n G dL_law_1071 1 rfl ?_
  refine tk_arg C G 1 dL_law_1072 dL_law_1073 dL_law_1074 dL_law_1075 dL_law_1076 (by decide) (by omega) ?_
  refine tk_c9 (As := [.int (xs (k + 1))]) (st := [.int r]) C G dL_law_1077 wY_X9_home wM_L_118 wI_X9_home wS_X9_home (by decide) (c_X9_home E h1 217 (xs (k + 1)) kd217 (r, h2) e2) rfl rfl (Nat.le_of_ble_eq_true rfl) ?_
  exact tk_icmp_eq (tgt := 1303) G dL_law_1080 rfl (fun _ => K h2 I2) (fun q => absurd rfl q)
theorem lw_c25 (C : lwC E X b L xs n w) (G : tkG E X cL_law 4 RL ret) (hk : k + 5 < L) (I : Inv h) (K : ∀ h', Inv h' → tkV E X 4 n w Z 1303 (lwA E b k) [] tkF h') : tkV E X 4 n w Z 1085 (lwA E b k) [] tkF h := by
  obtain ⟨r, h1, h2, e1, e2, I2⟩ := op_sheet I (xs (k + 1)) (xs (k + 2)) (xs (k + 3))
  refine tk_aload_n G dL_law_1085 2 rfl ?_
  refine tk_arg C G 1 dL_law_1086 dL_law_1087 dL_law_1088 dL_law_1089 dL_law_1090 (by decide) (by omega) ?_
  refine tk_arg C G 2 dL_law_1091 dL_law_1092 dL_law_1093 dL_law_1094 dL_law_1095 (by decide) (by omega) ?_
  refine tk_arg C G 3 dL_law_1096 dL_law_1097 dL_law_1098 dL_law_1099 dL_law_1100 (by decide) (by omega) ?_
  refine tk_c8 (As := [.int (xs (k + 1)), .int (xs (k + 2)), .int (xs (k + 3))]) (st := []) C G dL_law_1101 wY_X8_sheet wM_L_119 wI_X8_sheet wS_X8_sheet (by decide) (c_X8_sheet E h 0 (xs (k + 1)) (xs (k + 2)) (xs (k + 3)) kd0 (r, h1) e1) rfl rfl (Nat.le_of_ble_eq_true rfl) ?_
  refine tk_aload_n G dL_law_1104 1 rfl ?_
  refine tk_arg C G 1 dL_law_1105 dL_law_1106 dL_law_1107 dL_law_1108 dL_law_1109 (by decide) (by omega) ?_
  refine tk_arg C G 2 dL_law_1110 dL_law_1111 dL_law_1112 dL_law_1113 dL_law_1114 (by decide) (by omega) ?_
  refine tk_arg C G 3 dL_law_1115 dL_law_1116 dL_law_1117 dL_law_1118 dL_law_1119 (by decide) (by omega) ?_
  refine tk_c9 (As := [.int (xs (k + 1)), .int (xs (k + 2)), .int (xs (k + 3))]) (st := [.int r]) C G dL_law_1120 wY_X9_sheet wM_L_122 wI_X9_sheet wS_X9_sheet (by decide) (c_X9_sheet E h1 217 (xs (k + 1)) (xs (k + 2)) (xs (k + 3)) kd217 (r, h2) e2) rfl rfl (Nat.le_of_ble_eq_true rfl) ?_
  exact tk_icmp_eq (tgt := 1303) G dL_law_1123 rfl (fun _ => K h2 I2) (fun q => absurd rfl q)
theorem lw_c26 (C : lwC E X b L xs n w) (G : tkG E X cL_law 4 RL ret) (hk : k + 5 < L) (I : Inv h) (K : ∀ h', Inv h' → tkV E X 4 n w Z 1303 (lwA E b k) [] tkF h') : tkV E X 4 n w Z 1128 (lwA E b k) [] tkF h := by
  obtain ⟨r, h1, h2, e1, e2, I2⟩ := op_put I (xs (k + 1)) (xs (k + 2)) (xs (k + 3))
  refine tk_aload_n G dL_law_1128 2 rfl ?_
  refine tk_arg C G 1 dL_law_1129 dL_law_1130 dL_law_1131 dL_law_1132 dL_law_1133 (by decide) (by omega) ?_
  refine tk_arg C G 2 dL_law_1134 dL_law_1135 dL_law_1136 dL_law_1137 dL_law_1138 (by decide) (by omega) ?_
  refine tk_arg C G 3 dL_law_1139 dL_law_1140 dL_law_1141 dL_law_1142 dL_law_1143 (by decide) (by omega) ?_
  refine tk_c8 (As := [.int (xs (k + 1)), .int (xs (k + 2)), .int (xs (k + 3))]) (st := []) C G dL_law_1144 wY_X8_put wM_L_123 wI_X8_put wS_X8_put (by decide) (c_X8_put E h 0 (xs (k + 1)) (xs (k + 2)) (xs (k + 3)) kd0 (r, h1) e1) rfl rfl (Nat.le_of_ble_eq_true rfl) ?_
  refine tk_aload_n G dL_law_1147 1 rfl ?_
  refine tk_arg C G 1 dL_law_1148 dL_law_1149 dL_law_1150 dL_law_1151 dL_law_1152 (by decide) (by omega) ?_
  refine tk_arg C G 2 dL_law_1153 dL_law_1154 dL_law_1155 dL_law_1156 dL_law_1157 (by decide) (by omega) ?_
  refine tk_arg C G 3 dL_law_1158 dL_law_1159 dL_law_1160 dL_law_1161 dL_law_1162 (by decide) (by omega) ?_
  refine tk_c9 (As := [.int (xs (k + 1)), .int (xs (k + 2)), .int (xs (k + 3))]) (st := [.int r]) C G dL_law_1163 wY_X9_put wM_L_126 wI_X9_put wS_X9_put (by decide) (c_X9_put E h1 217 (xs (k + 1)) (xs (k + 2)) (xs (k + 3)) kd217 (r, h2) e2) rfl rfl (Nat.le_of_ble_eq_true rfl) ?_
  exact tk_icmp_eq (tgt := 1303) G dL_law_1166 rfl (fun _ => K h2 I2) (fun q => absurd rfl q)
theorem lw_c27 (C : lwC E X b L xs n w) (G : tkG E X cL_law 4 RL ret) (hk : k + 5 < L) (I : Inv h) (K : ∀ h', Inv h' → tkV E X 4 n w Z 1303 (lwA E b k) [] tkF h') : tkV E X 4 n w Z 1171 (lwA E b k) [] tkF h := by
  obtain ⟨r, h1, h2, e1, e2, I2⟩ := op_copy I (xs (k + 1)) (xs (k + 2)) (xs (k + 3)) (xs (k + 4)) (xs (k + 5))
  refine tk_aload_n G dL_law_1171 2 rfl ?_
  refine tk_arg C G 1 dL_law_1172 dL_law_1173 dL_law_1174 dL_law_1175 dL_law_1176 (by decide) (by omega) ?_
  refine tk_arg C G 2 dL_law_1177 dL_law_1178 dL_law_1179 dL_law_1180 dL_law_1181 (by decide) (by omega) ?_
  refine tk_arg C G 3 dL_law_1182 dL_law_1183 dL_law_1184 dL_law_1185 dL_law_1186 (by decide) (by omega) ?_
  refine tk_arg C G 4 dL_law_1187 dL_law_1188 dL_law_1189 dL_law_1190 dL_law_1191 (by decide) (by omega) ?_
  refine tk_arg C G 5 dL_law_1192 dL_law_1193 dL_law_1194 dL_law_1195 dL_law_1196 (by decide) (by omega) ?_
  refine tk_c8 (As := [.int (xs (k + 1)), .int (xs (k + 2)), .int (xs (k + 3)), .int (xs (k + 4)), .int (xs (k + 5))]) (st := []) C G dL_law_1197 wY_X8_copy wM_L_127 wI_X8_copy wS_X8_copy (by decide) (c_X8_copy E h 0 (xs (k + 1)) (xs (k + 2)) (xs (k + 3)) (xs (k + 4)) (xs (k + 5)) kd0 (r, h1) e1) rfl rfl (Nat.le_of_ble_eq_true rfl) ?_
  refine tk_aload_n G dL_law_1200 1 rfl ?_
  refine tk_arg C G 1 dL_law_1201 dL_law_1202 dL_law_1203 dL_law_1204 dL_law_1205 (by decide) (by omega) ?_
  refine tk_arg C G 2 dL_law_1206 dL_law_1207 dL_law_1208 dL_law_1209 dL_law_1210 (by decide) (by omega) ?_
  refine tk_arg C G 3 dL_law_1211 dL_law_1212 dL_law_1213 dL_law_1214 dL_law_1215 (by decide) (by omega) ?_
  refine tk_arg C G 4 dL_law_1216 dL_law_1217 dL_law_1218 dL_law_1219 dL_law_1220 (by decide) (by omega) ?_
  refine tk_arg C G 5 dL_law_1221 dL_law_1222 dL_law_1223 dL_law_1224 dL_law_1225 (by decide) (by omega) ?_
  refine tk_c9 (As := [.int (xs (k + 1)), .int (xs (k + 2)), .int (xs (k + 3)), .int (xs (k + 4)), .int (xs (k + 5))]) (st := [.int r]) C G dL_law_1226 wY_X9_copy wM_L_131 wI_X9_copy wS_X9_copy (by decide) (c_X9_copy E h1 217 (xs (k + 1)) (xs (k + 2)) (xs (k + 3)) (xs (k + 4)) (xs (k + 5)) kd217 (r, h2) e2) rfl rfl (Nat.le_of_ble_eq_true rfl) ?_
  exact tk_icmp_eq (tgt := 1303) G dL_law_1229 rfl (fun _ => K h2 I2) (fun q => absurd rfl q)
theorem lw_c28 (C : lwC E X b L xs n w) (G : tkG E X cL_law 4 RL ret) (hk : k + 5 < L) (I : Inv h) (K : ∀ h', Inv h' → tkV E X 4 n w Z 1303 (lwA E b k) [] tkF h') : tkV E X 4 n w Z 1234 (lwA E b k) [] tkF h := by
  obtain ⟨r, h1, h2, e1, e2, I2⟩ := op_lay I (xs (k + 1)) (xs (k + 2))
  refine tk_aload_n G dL_law_1234 2 rfl ?_
  refine tk_arg C G 1 dL_law_1235 dL_law_1236 dL_law_1237 dL_law_1238 dL_law_1239 (by decide) (by omega) ?_
  refine tk_arg C G 2 dL_law_1240 dL_law_1241 dL_law_1242 dL_law_1243 dL_law_1244 (by decide) (by omega) ?_
  refine tk_c8 (As := [.int (xs (k + 1)), .int (xs (k + 2))]) (st := []) C G dL_law_1245 wY_X8_lay wM_L_132 wI_X8_lay wS_X8_lay (by decide) (c_X8_lay E h 0 (xs (k + 1)) (xs (k + 2)) kd0 (r, h1) e1) rfl rfl (Nat.le_of_ble_eq_true rfl) ?_
  refine tk_aload_n G dL_law_1248 1 rfl ?_
  refine tk_arg C G 1 dL_law_1249 dL_law_1250 dL_law_1251 dL_law_1252 dL_law_1253 (by decide) (by omega) ?_
  refine tk_arg C G 2 dL_law_1254 dL_law_1255 dL_law_1256 dL_law_1257 dL_law_1258 (by decide) (by omega) ?_
  refine tk_c9 (As := [.int (xs (k + 1)), .int (xs (k + 2))]) (st := [.int r]) C G dL_law_1259 wY_X9_lay wM_L_135 wI_X9_lay wS_X9_lay (by decide) (c_X9_lay E h1 217 (xs (k + 1)) (xs (k + 2)) kd217 (r, h2) e2) rfl rfl (Nat.le_of_ble_eq_true rfl) ?_
  exact tk_icmp_eq (tgt := 1303) G dL_law_1262 rfl (fun _ => K h2 I2) (fun q => absurd rfl q)
theorem lw_c29 (C : lwC E X b L xs n w) (G : tkG E X cL_law 4 RL ret) (hk : k + 5 < L) (I : Inv h) (K : ∀ h', Inv h' → tkV E X 4 n w Z 1303 (lwA E b k) [] tkF h') : tkV E X 4 n w Z 1267 (lwA E b k) [] tkF h := by
  obtain ⟨r, h1, h2, e1, e2, I2⟩ := op_undo I 
  refine tk_aload_n G dL_law_1267 2 rfl ?_
  refine tk_c8 (As := []) (st := []) C G dL_law_1268 wY_X8_undo wM_L_136 wI_X8_undo wS_X8_undo (by decide) (c_X8_undo E h 0  kd0 (r, h1) e1) rfl rfl (Nat.le_of_ble_eq_true rfl) ?_
  refine tk_aload_n G dL_law_1271 1 rfl ?_
  refine tk_c9 (As := []) (st := [.int r]) C G dL_law_1272 wY_X9_undo wM_L_140 wI_X9_undo wS_X9_undo (by decide) (c_X9_undo E h1 217  kd217 (r, h2) e2) rfl rfl (Nat.le_of_ble_eq_true rfl) ?_
  exact tk_icmp_eq (tgt := 1303) G dL_law_1275 rfl (fun _ => K h2 I2) (fun q => absurd rfl q)
theorem lw_c30 (C : lwC E X b L xs n w) (G : tkG E X cL_law 4 RL ret) (hk : k + 5 < L) (I : Inv h) (K : ∀ h', Inv h' → tkV E X 4 n w Z 1303 (lwA E b k) [] tkF h') : tkV E X 4 n w Z 1280 (lwA E b k) [] tkF h := by
  obtain ⟨r, h1, h2, e1, e2, I2⟩ := op_all I (xs (k + 1))
  refine tk_aload_n G dL_law_1280 2 rfl ?_
  refine tk_arg C G 1 dL_law_1281 dL_law_1282 dL_law_1283 dL_law_1284 dL_law_1285 (by decide) (by omega) ?_
  refine tk_c8 (As := [.int (xs (k + 1))]) (st := []) C G dL_law_1286 wY_X8_all wM_L_141 wI_X8_all wS_X8_all (by decide) (c_X8_all E h 0 (xs (k + 1)) kd0 (r, h1) e1) rfl rfl (Nat.le_of_ble_eq_true rfl) ?_
  refine tk_aload_n G dL_law_1289 1 rfl ?_
  refine tk_arg C G 1 dL_law_1290 dL_law_1291 dL_law_1292 dL_law_1293 dL_law_1294 (by decide) (by omega) ?_
  refine tk_c9 (As := [.int (xs (k + 1))]) (st := [.int r]) C G dL_law_1295 wY_X9_all wM_L_144 wI_X9_all wS_X9_all (by decide) (c_X9_all E h1 217 (xs (k + 1)) kd217 (r, h2) e2) rfl rfl (Nat.le_of_ble_eq_true rfl) ?_
  exact tk_icmp_eq (tgt := 1303) G dL_law_1298 rfl (fun _ => K h2 I2) (fun q => absurd rfl q)
end
