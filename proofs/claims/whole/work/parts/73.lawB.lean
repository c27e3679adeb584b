/-! MACHINE: the law's cases (laid by program: wip/whole/gen/law.py) -/
abbrev lwK (p : Program) (l : Launch) (e : Env) (s : State) (m : MethodId) (args : Array Value) (below : List Frame) (meth : Method) (c : Code) (D : va_G) (cI cR cL : ClassId) (q qm : Nat → Nat) (o b : Nat) (x : Int32) (cells slots : Nat) (Q : State → Prop) : Prop :=
  ∀ (G1 M1 : Nat → Nat → Int32) (v1 : Int64) (H1 : Heap) (locs1 : List Loc) (ls1 : Array Slot), Rel G1 M1 → lwW D cI cR cL q qm o G1 M1 v1 H1 → va_S (lwA s) s.heap H1 locs1 → lv_has ls1 9 (lwL b (q 0) (qm 0) o x) → W p l e room_1 s m args below meth c H1 locs1 cells slots Q (F0 m 1311 ls1 [])
section LWB
variable {p : Program} {l : Launch} {e : Env} {s : State} {m : MethodId} {args : Array Value} {below : List Frame} {meth : Method} {c : Code} {H : Heap} {locs : List Loc} {cells slots : Nat} {Q : State → Prop}
variable {ls : Array Slot} {D : va_G} {cI cR cL : ClassId} {q qm : Nat → Nat} {o b L : Nat} {xs : Nat → Int32} {G M : Nat → Nat → Int32} {v : Int64}
set_option maxHeartbeats 4000000 in
set_option maxRecDepth 100000 in
theorem lw_k_addKind (F : lwF p l s m c args D cI cR cL b L xs) (J : lwJ q qm o s.heap.size) (hS : va_S (lwA s) s.heap H locs) (hW : lwW D cI cR cL q qm o G M v H) (R0 : Rel G M) {i : Nat} (hi : 4 * i + 4 ≤ L) (hL : L ≤ 2048) (hl : lv_has ls 9 (lwL b (q 0) (qm 0) o (nI (4 * i)))) (hc : cells + 4 ≤ room_1.cells) (hs : slots + 24 ≤ room_1.slots)
    (kk : lwK p l e s m args below meth c D cI cR cL q qm o b (nI (4 * i)) (cells + 4) (slots + 24) Q) :
    W p l e room_1 s m args below meth c H locs cells slots Q (F0 m 144 ls []) := by
  have hts := F.2.2.2.2.1
  obtain ⟨hx, hb, -, -, -, hfl, -⟩ := id F
  obtain ⟨r, mb, M1, hr, hm, hE, hfin⟩ := (op_addKind (K := 4000) (Nat.le_refl 4000) R0 (xs (4 * i + 1)) (xs (4 * i + 2)) (xs (4 * i + 3))).ex uAS
  have hSx := hS
  refine lv_aload_n hx hb dL_law_144 rfl (lv_at hl 1 rfl) ?_
  refine lw_ld F hL hSx (j := 1) (lv_at hl 0 rfl) (lv_at hl 4 rfl) (by omega) rfl dL_law_145 dL_law_146 dL_law_148 dL_law_149 dL_law_150 ?_
  refine lw_ld F hL hSx (j := 2) (lv_at hl 0 rfl) (lv_at hl 4 rfl) (by omega) rfl dL_law_151 dL_law_152 dL_law_154 dL_law_155 dL_law_156 ?_
  refine lw_ld F hL hSx (j := 3) (lv_at hl 0 rfl) (lv_at hl 4 rfl) (by omega) rfl dL_law_157 dL_law_158 dL_law_160 dL_law_161 dL_law_162 ?_
  refine lv_aload_n hx hb dL_law_163 rfl (lv_at hl 3 rfl) ?_
  refine lw_cL F J hS hW [.ref (q 0), .int (xs (4 * i + 1)), .int (xs (4 * i + 2)), .int (xs (4 * i + 3)), .ref o] (kL_addKind l hfl D cI cR cL q G 4000 _ _ _ J.1 H.size o v r hr hE) (vx_cwSW 5 hts gL_law_L_addKind rfl rfl rfl (by decide +kernel) ⟨Nat.le_of_ble_eq_true rfl, Nat.le_of_ble_eq_true rfl⟩) rfl hl.1 rfl (Nat.le_of_ble_eq_true rfl) dL_law_164 ⟨by omega, by omega⟩ (fun k G1 v1 H1 locs1 hw hW1 hS1 => ?_)
  clear hSx
  have hSx := hS1
  refine lv_istore (lv' := (5, .int k) :: lwL b (q 0) (qm 0) o (nI (4 * i))) hx hb dL_law_167 hl (by decide) rfl (fun ls hl => ?_)
  refine lv_aload_n hx hb dL_law_169 rfl (lv_at hl 3 rfl) ?_
  refine lw_ld F hL hSx (j := 1) (lv_at hl 1 rfl) (lv_at hl 5 rfl) (by omega) rfl dL_law_170 dL_law_171 dL_law_173 dL_law_174 dL_law_175 ?_
  refine lw_ld F hL hSx (j := 2) (lv_at hl 1 rfl) (lv_at hl 5 rfl) (by omega) rfl dL_law_176 dL_law_177 dL_law_179 dL_law_180 dL_law_181 ?_
  refine lw_ld F hL hSx (j := 3) (lv_at hl 1 rfl) (lv_at hl 5 rfl) (by omega) rfl dL_law_182 dL_law_183 dL_law_185 dL_law_186 dL_law_187 ?_
  refine lw_cM F J hS1 hW1 [.int (xs (4 * i + 1)), .int (xs (4 * i + 2)), .int (xs (4 * i + 3))] (kX4_addKind l D cI cR qm M 4000 _ _ _ J.2.1 (mb, M1) hm) (cwV 3 hts gL_law_X4_addKind rfl rfl rfl (by decide +kernel) ⟨Nat.le_of_ble_eq_true rfl, Nat.le_of_ble_eq_true rfl⟩) rfl hl.1 rfl (Nat.le_of_ble_eq_true rfl) dL_law_188 (by omega) (by omega) (fun H2 locs2 hW2 hS2 => ?_)
  refine lv_istore (lv' := (6, .int mb) :: (5, .int k) :: lwL b (q 0) (qm 0) o (nI (4 * i))) hx hb dL_law_191 hl (by decide) rfl (fun ls hl => ?_)
  obtain ⟨e1, e2, R1⟩ := hfin v k G1 v1 hw
  refine lw_tail F J hS2 hW2 hl e1 e2 dL_law_193 dL_law_194 dL_law_197 dL_law_199 dL_law_204 dL_law_206 dL_law_209 dL_law_210 dL_law_211 dL_law_212 dL_law_214 dL_law_215 dL_law_216 dL_law_221 (by decide) (by omega) (by omega) (fun H3 locs3 hW3 hS3 => ?_)
  exact W.widen (by omega) (by omega) (kk _ _ _ _ _ _ R1 hW3 hS3 (lv_sub hl [2, 3, 4, 5, 6] rfl))
set_option maxHeartbeats 4000000 in
set_option maxRecDepth 100000 in
theorem lw_k_setHome (F : lwF p l s m c args D cI cR cL b L xs) (J : lwJ q qm o s.heap.size) (hS : va_S (lwA s) s.heap H locs) (hW : lwW D cI cR cL q qm o G M v H) (R0 : Rel G M) {i : Nat} (hi : 4 * i + 4 ≤ L) (hL : L ≤ 2048) (hl : lv_has ls 9 (lwL b (q 0) (qm 0) o (nI (4 * i)))) (hc : cells + 4 ≤ room_1.cells) (hs : slots + 24 ≤ room_1.slots)
    (kk : lwK p l e s m args below meth c D cI cR cL q qm o b (nI (4 * i)) (cells + 4) (slots + 24) Q) :
    W p l e room_1 s m args below meth c H locs cells slots Q (F0 m 224 ls []) := by
  have hts := F.2.2.2.2.1
  obtain ⟨hx, hb, -, -, -, hfl, -⟩ := id F
  obtain ⟨r, mb, M1, hr, hm, hE, hfin⟩ := (op_setHome (K := 4000) (Nat.le_refl 4000) R0 (xs (4 * i + 1)) (xs (4 * i + 2))).ex uIA
  have hSx := hS
  refine lv_aload_n hx hb dL_law_224 rfl (lv_at hl 1 rfl) ?_
  refine lw_ld F hL hSx (j := 1) (lv_at hl 0 rfl) (lv_at hl 4 rfl) (by omega) rfl dL_law_225 dL_law_226 dL_law_228 dL_law_229 dL_law_230 ?_
  refine lw_ld F hL hSx (j := 2) (lv_at hl 0 rfl) (lv_at hl 4 rfl) (by omega) rfl dL_law_231 dL_law_232 dL_law_234 dL_law_235 dL_law_236 ?_
  refine lv_aload_n hx hb dL_law_237 rfl (lv_at hl 3 rfl) ?_
  refine lw_cL F J hS hW [.ref (q 0), .int (xs (4 * i + 1)), .int (xs (4 * i + 2)), .ref o] (kL_setHome l hfl D cI cR cL q G 4000 _ _ J.1 H.size o v r hr hE) (vx_cwSW 4 hts gL_law_L_setHome rfl rfl rfl (by decide +kernel) ⟨Nat.le_of_ble_eq_true rfl, Nat.le_of_ble_eq_true rfl⟩) rfl hl.1 rfl (Nat.le_of_ble_eq_true rfl) dL_law_238 ⟨by omega, by omega⟩ (fun k G1 v1 H1 locs1 hw hW1 hS1 => ?_)
  clear hSx
  have hSx := hS1
  refine lv_istore (lv' := (5, .int k) :: lwL b (q 0) (qm 0) o (nI (4 * i))) hx hb dL_law_241 hl (by decide) rfl (fun ls hl => ?_)
  refine lv_aload_n hx hb dL_law_243 rfl (lv_at hl 3 rfl) ?_
  refine lw_ld F hL hSx (j := 1) (lv_at hl 1 rfl) (lv_at hl 5 rfl) (by omega) rfl dL_law_244 dL_law_245 dL_law_247 dL_law_248 dL_law_249 ?_
  refine lw_ld F hL hSx (j := 2) (lv_at hl 1 rfl) (lv_at hl 5 rfl) (by omega) rfl dL_law_250 dL_law_251 dL_law_253 dL_law_254 dL_law_255 ?_
  refine lw_cM F J hS1 hW1 [.int (xs (4 * i + 1)), .int (xs (4 * i + 2))] (kX4_setHome l D cI cR qm M 4000 _ _ J.2.1 (mb, M1) hm) (cwV 2 hts gL_law_X4_setHome rfl rfl rfl (by decide +kernel) ⟨Nat.le_of_ble_eq_true rfl, Nat.le_of_ble_eq_true rfl⟩) rfl hl.1 rfl (Nat.le_of_ble_eq_true rfl) dL_law_256 (by omega) (by omega) (fun H2 locs2 hW2 hS2 => ?_)
  refine lv_istore (lv' := (6, .int mb) :: (5, .int k) :: lwL b (q 0) (qm 0) o (nI (4 * i))) hx hb dL_law_259 hl (by decide) rfl (fun ls hl => ?_)
  obtain ⟨e1, e2, R1⟩ := hfin v k G1 v1 hw
  refine lw_tail F J hS2 hW2 hl e1 e2 dL_law_261 dL_law_262 dL_law_265 dL_law_267 dL_law_272 dL_law_274 dL_law_277 dL_law_278 dL_law_279 dL_law_280 dL_law_282 dL_law_283 dL_law_284 dL_law_289 (by decide) (by omega) (by omega) (fun H3 locs3 hW3 hS3 => ?_)
  exact W.widen (by omega) (by omega) (kk _ _ _ _ _ _ R1 hW3 hS3 (lv_sub hl [2, 3, 4, 5, 6] rfl))
set_option maxHeartbeats 4000000 in
set_option maxRecDepth 100000 in
theorem lw_k_setGap (F : lwF p l s m c args D cI cR cL b L xs) (J : lwJ q qm o s.heap.size) (hS : va_S (lwA s) s.heap H locs) (hW : lwW D cI cR cL q qm o G M v H) (R0 : Rel G M) {i : Nat} (hi : 4 * i + 4 ≤ L) (hL : L ≤ 2048) (hl : lv_has ls 9 (lwL b (q 0) (qm 0) o (nI (4 * i)))) (hc : cells + 4 ≤ room_1.cells) (hs : slots + 24 ≤ room_1.slots)
    (kk : lwK p l e s m args below meth c D cI cR cL q qm o b (nI (4 * i)) (cells + 4) (slots + 24) Q) :
    W p l e room_1 s m args below meth c H locs cells slots Q (F0 m 292 ls []) := by
  have hts := F.2.2.2.2.1
  obtain ⟨hx, hb, -, -, -, hfl, -⟩ := id F
  obtain ⟨r, mb, M1, hr, hm, hE, hfin⟩ := (op_setGap (K := 4000) (Nat.le_refl 4000) R0 (xs (4 * i + 1)) (xs (4 * i + 2))).ex uIAS
  have hSx := hS
  refine lv_aload_n hx hb dL_law_292 rfl (lv_at hl 1 rfl) ?_
  refine lw_ld F hL hSx (j := 1) (lv_at hl 0 rfl) (lv_at hl 4 rfl) (by omega) rfl dL_law_293 dL_law_294 dL_law_296 dL_law_297 dL_law_298 ?_
  refine lw_ld F hL hSx (j := 2) (lv_at hl 0 rfl) (lv_at hl 4 rfl) (by omega) rfl dL_law_299 dL_law_300 dL_law_302 dL_law_303 dL_law_304 ?_
  refine lv_aload_n hx hb dL_law_305 rfl (lv_at hl 3 rfl) ?_
  refine lw_cL F J hS hW [.ref (q 0), .int (xs (4 * i + 1)), .int (xs (4 * i + 2)), .ref o] (kL_setGap l hfl D cI cR cL q G 4000 _ _ J.1 H.size o v r hr hE) (vx_cwSW 4 hts gL_law_L_setGap rfl rfl rfl (by decide +kernel) ⟨Nat.le_of_ble_eq_true rfl, Nat.le_of_ble_eq_true rfl⟩) rfl hl.1 rfl (Nat.le_of_ble_eq_true rfl) dL_law_306 ⟨by omega, by omega⟩ (fun k G1 v1 H1 locs1 hw hW1 hS1 => ?_)
  clear hSx
  have hSx := hS1
  refine lv_istore (lv' := (5, .int k) :: lwL b (q 0) (qm 0) o (nI (4 * i))) hx hb dL_law_309 hl (by decide) rfl (fun ls hl => ?_)
  refine lv_aload_n hx hb dL_law_311 rfl (lv_at hl 3 rfl) ?_
  refine lw_ld F hL hSx (j := 1) (lv_at hl 1 rfl) (lv_at hl 5 rfl) (by omega) rfl dL_law_312 dL_law_313 dL_law_315 dL_law_316 dL_law_317 ?_
  refine lw_ld F hL hSx (j := 2) (lv_at hl 1 rfl) (lv_at hl 5 rfl) (by omega) rfl dL_law_318 dL_law_319 dL_law_321 dL_law_322 dL_law_323 ?_
  refine lw_cM F J hS1 hW1 [.int (xs (4 * i + 1)), .int (xs (4 * i + 2))] (kX4_setGap l D cI cR qm M 4000 _ _ J.2.1 (mb, M1) hm) (cwV 2 hts gL_law_X4_setGap rfl rfl rfl (by decide +kernel) ⟨Nat.le_of_ble_eq_true rfl, Nat.le_of_ble_eq_true rfl⟩) rfl hl.1 rfl (Nat.le_of_ble_eq_true rfl) dL_law_324 (by omega) (by omega) (fun H2 locs2 hW2 hS2 => ?_)
  refine lv_istore (lv' := (6, .int mb) :: (5, .int k) :: lwL b (q 0) (qm 0) o (nI (4 * i))) hx hb dL_law_327 hl (by decide) rfl (fun ls hl => ?_)
  obtain ⟨e1, e2, R1⟩ := hfin v k G1 v1 hw
  refine lw_tail F J hS2 hW2 hl e1 e2 dL_law_329 dL_law_330 dL_law_333 dL_law_335 dL_law_340 dL_law_342 dL_law_345 dL_law_346 dL_law_347 dL_law_348 dL_law_350 dL_law_351 dL_law_352 dL_law_357 (by decide) (by omega) (by omega) (fun H3 locs3 hW3 hS3 => ?_)
  exact W.widen (by omega) (by omega) (kk _ _ _ _ _ _ R1 hW3 hS3 (lv_sub hl [2, 3, 4, 5, 6] rfl))
set_option maxHeartbeats 4000000 in
set_option maxRecDepth 100000 in
theorem lw_k_feed (F : lwF p l s m c args D cI cR cL b L xs) (J : lwJ q qm o s.heap.size) (hS : va_S (lwA s) s.heap H locs) (hW : lwW D cI cR cL q qm o G M v H) (R0 : Rel G M) {i : Nat} (hi : 4 * i + 4 ≤ L) (hL : L ≤ 2048) (hl : lv_has ls 9 (lwL b (q 0) (qm 0) o (nI (4 * i)))) (hc : cells + 4 ≤ room_1.cells) (hs : slots + 24 ≤ room_1.slots)
    (kk : lwK p l e s m args below meth c D cI cR cL q qm o b (nI (4 * i)) (cells + 4) (slots + 24) Q) :
    W p l e room_1 s m args below meth c H locs cells slots Q (F0 m 360 ls []) := by
  have hts := F.2.2.2.2.1
  obtain ⟨hx, hb, -, -, -, hfl, -⟩ := id F
  obtain ⟨r, mb, M1, hr, hm, hE, hfin⟩ := (op_feed (K := 4000) (Nat.le_refl 4000) R0 (xs (4 * i + 1)) (xs (4 * i + 2))).ex uIA
  have hSx := hS
  refine lv_aload_n hx hb dL_law_360 rfl (lv_at hl 1 rfl) ?_
  refine lw_ld F hL hSx (j := 1) (lv_at hl 0 rfl) (lv_at hl 4 rfl) (by omega) rfl dL_law_361 dL_law_362 dL_law_364 dL_law_365 dL_law_366 ?_
  refine lw_ld F hL hSx (j := 2) (lv_at hl 0 rfl) (lv_at hl 4 rfl) (by omega) rfl dL_law_367 dL_law_368 dL_law_370 dL_law_371 dL_law_372 ?_
  refine lv_aload_n hx hb dL_law_373 rfl (lv_at hl 3 rfl) ?_
  refine lw_cL F J hS hW [.ref (q 0), .int (xs (4 * i + 1)), .int (xs (4 * i + 2)), .ref o] (kL_feed l hfl D cI cR cL q G 4000 _ _ J.1 H.size o v r hr hE) (vx_cwSW 4 hts gL_law_L_feed rfl rfl rfl (by decide +kernel) ⟨Nat.le_of_ble_eq_true rfl, Nat.le_of_ble_eq_true rfl⟩) rfl hl.1 rfl (Nat.le_of_ble_eq_true rfl) dL_law_374 ⟨by omega, by omega⟩ (fun k G1 v1 H1 locs1 hw hW1 hS1 => ?_)
  clear hSx
  have hSx := hS1
  refine lv_istore (lv' := (5, .int k) :: lwL b (q 0) (qm 0) o (nI (4 * i))) hx hb dL_law_377 hl (by decide) rfl (fun ls hl => ?_)
  refine lv_aload_n hx hb dL_law_379 rfl (lv_at hl 3 rfl) ?_
  refine lw_ld F hL hSx (j := 1) (lv_at hl 1 rfl) (lv_at hl 5 rfl) (by omega) rfl dL_law_380 dL_law_381 dL_law_383 dL_law_384 dL_law_385 ?_
  refine lw_ld F hL hSx (j := 2) (lv_at hl 1 rfl) (lv_at hl 5 rfl) (by omega) rfl dL_law_386 dL_law_387 dL_law_389 dL_law_390 dL_law_391 ?_
  refine lw_cM F J hS1 hW1 [.int (xs (4 * i + 1)), .int (xs (4 * i + 2))] (kX4_feed l D cI cR qm M 4000 _ _ J.2.1 (mb, M1) hm) (cwV 2 hts gL_law_X4_feed rfl rfl rfl (by decide +kernel) ⟨Nat.le_of_ble_eq_true rfl, Nat.le_of_ble_eq_true rfl⟩) rfl hl.1 rfl (Nat.le_of_ble_eq_true rfl) dL_law_392 (by omega) (by omega) (fun H2 locs2 hW2 hS2 => ?_)
  refine lv_istore (lv' := (6, .int mb) :: (5, .int k) :: lwL b (q 0) (qm 0) o (nI (4 * i))) hx hb dL_law_395 hl (by decide) rfl (fun ls hl => ?_)
  obtain ⟨e1, e2, R1⟩ := hfin v k G1 v1 hw
  refine lw_tail F J hS2 hW2 hl e1 e2 dL_law_397 dL_law_398 dL_law_401 dL_law_403 dL_law_408 dL_law_410 dL_law_413 dL_law_414 dL_law_415 dL_law_416 dL_law_418 dL_law_419 dL_law_420 dL_law_425 (by decide) (by omega) (by omega) (fun H3 locs3 hW3 hS3 => ?_)
  exact W.widen (by omega) (by omega) (kk _ _ _ _ _ _ R1 hW3 hS3 (lv_sub hl [2, 3, 4, 5, 6] rfl))
set_option maxHeartbeats 4000000 in
set_option maxRecDepth 100000 in
theorem lw_k_feedSome (F : lwF p l s m c args D cI cR cL b L xs) (J : lwJ q qm o s.heap.size) (hS : va_S (lwA s) s.heap H locs) (hW : lwW D cI cR cL q qm o G M v H) (R0 : Rel G M) {i : Nat} (hi : 4 * i + 4 ≤ L) (hL : L ≤ 2048) (hl : lv_has ls 9 (lwL b (q 0) (qm 0) o (nI (4 * i)))) (hc : cells + 4 ≤ room_1.cells) (hs : slots + 24 ≤ room_1.slots)
    (kk : lwK p l e s m args below meth c D cI cR cL q qm o b (nI (4 * i)) (cells + 4) (slots + 24) Q) :
    W p l e room_1 s m args below meth c H locs cells slots Q (F0 m 428 ls []) := by
  have hts := F.2.2.2.2.1
  obtain ⟨hx, hb, -, -, -, hfl, -⟩ := id F
  obtain ⟨r, mb, M1, hr, hm, hE, hfin⟩ := (op_feedSome (K := 4000) (Nat.le_refl 4000) R0 (xs (4 * i + 1)) (xs (4 * i + 2))).ex uAS
  have hSx := hS
  refine lv_aload_n hx hb dL_law_428 rfl (lv_at hl 1 rfl) ?_
  refine lw_ld F hL hSx (j := 1) (lv_at hl 0 rfl) (lv_at hl 4 rfl) (by omega) rfl dL_law_429 dL_law_430 dL_law_432 dL_law_433 dL_law_434 ?_
  refine lw_ld F hL hSx (j := 2) (lv_at hl 0 rfl) (lv_at hl 4 rfl) (by omega) rfl dL_law_435 dL_law_436 dL_law_438 dL_law_439 dL_law_440 ?_
  refine lv_aload_n hx hb dL_law_441 rfl (lv_at hl 3 rfl) ?_
  refine lw_cL F J hS hW [.ref (q 0), .int (xs (4 * i + 1)), .int (xs (4 * i + 2)), .ref o] (kL_feedSome l hfl D cI cR cL q G 4000 _ _ J.1 H.size o v r hr hE) (vx_cwSW 4 hts gL_law_L_feedSome rfl rfl rfl (by decide +kernel) ⟨Nat.le_of_ble_eq_true rfl, Nat.le_of_ble_eq_true rfl⟩) rfl hl.1 rfl (Nat.le_of_ble_eq_true rfl) dL_law_442 ⟨by omega, by omega⟩ (fun k G1 v1 H1 locs1 hw hW1 hS1 => ?_)
  clear hSx
  have hSx := hS1
  refine lv_istore (lv' := (5, .int k) :: lwL b (q 0) (qm 0) o (nI (4 * i))) hx hb dL_law_445 hl (by decide) rfl (fun ls hl => ?_)
  refine lv_aload_n hx hb dL_law_447 rfl (lv_at hl 3 rfl) ?_
  refine lw_ld F hL hSx (j := 1) (lv_at hl 1 rfl) (lv_at hl 5 rfl) (by omega) rfl dL_law_448 dL_law_449 dL_law_451 dL_law_452 dL_law_453 ?_
  refine lw_ld F hL hSx (j := 2) (lv_at hl 1 rfl) (lv_at hl 5 rfl) (by omega) rfl dL_law_454 dL_law_455 dL_law_457 dL_law_458 dL_law_459 ?_
  refine lw_cM F J hS1 hW1 [.int (xs (4 * i + 1)), .int (xs (4 * i + 2))] (kX4_feedSome l D cI cR qm M 4000 _ _ J.2.1 (mb, M1) hm) (cwV 2 hts gL_law_X4_feedSome rfl rfl rfl (by decide +kernel) ⟨Nat.le_of_ble_eq_true rfl, Nat.le_of_ble_eq_true rfl⟩) rfl hl.1 rfl (Nat.le_of_ble_eq_true rfl) dL_law_460 (by omega) (by omega) (fun H2 locs2 hW2 hS2 => ?_)
  refine lv_istore (lv' := (6, .int mb) :: (5, .int k) :: lwL b (q 0) (qm 0) o (nI (4 * i))) hx hb dL_law_463 hl (by decide) rfl (fun ls hl => ?_)
  obtain ⟨e1, e2, R1⟩ := hfin v k G1 v1 hw
  refine lw_tail F J hS2 hW2 hl e1 e2 dL_law_465 dL_law_466 dL_law_469 dL_law_471 dL_law_476 dL_law_478 dL_law_481 dL_law_482 dL_law_483 dL_law_484 dL_law_486 dL_law_487 dL_law_488 dL_law_493 (by decide) (by omega) (by omega) (fun H3 locs3 hW3 hS3 => ?_)
  exact W.widen (by omega) (by omega) (kk _ _ _ _ _ _ R1 hW3 hS3 (lv_sub hl [2, 3, 4, 5, 6] rfl))
set_option maxHeartbeats 4000000 in
set_option maxRecDepth 100000 in
theorem lw_k_free (F : lwF p l s m c args D cI cR cL b L xs) (J : lwJ q qm o s.heap.size) (hS : va_S (lwA s) s.heap H locs) (hW : lwW D cI cR cL q qm o G M v H) (R0 : Rel G M) {i : Nat} (hi : 4 * i + 4 ≤ L) (hL : L ≤ 2048) (hl : lv_has ls 9 (lwL b (q 0) (qm 0) o (nI (4 * i)))) (hc : cells + 4 ≤ room_1.cells) (hs : slots + 24 ≤ room_1.slots)
    (kk : lwK p l e s m args below meth c D cI cR cL q qm o b (nI (4 * i)) (cells + 4) (slots + 24) Q) :
    W p l e room_1 s m args below meth c H locs cells slots Q (F0 m 496 ls []) := by
  have hts := F.2.2.2.2.1
  obtain ⟨hx, hb, -, -, -, hfl, -⟩ := id F
  obtain ⟨r, mb, M1, hr, hm, hE, hfin⟩ := (op_free (K := 4000) (Nat.le_refl 4000) R0 (xs (4 * i + 1))).ex uIS
  have hSx := hS
  refine lv_aload_n hx hb dL_law_496 rfl (lv_at hl 1 rfl) ?_
  refine lw_ld F hL hSx (j := 1) (lv_at hl 0 rfl) (lv_at hl 4 rfl) (by omega) rfl dL_law_497 dL_law_498 dL_law_500 dL_law_501 dL_law_502 ?_
  refine lv_aload_n hx hb dL_law_503 rfl (lv_at hl 3 rfl) ?_
  refine lw_cL F J hS hW [.ref (q 0), .int (xs (4 * i + 1)), .ref o] (kL_free l hfl D cI cR cL q G 4000 _ J.1 H.size o v r hr hE) (vx_cwSW 3 hts gL_law_L_free rfl rfl rfl (by decide +kernel) ⟨Nat.le_of_ble_eq_true rfl, Nat.le_of_ble_eq_true rfl⟩) rfl hl.1 rfl (Nat.le_of_ble_eq_true rfl) dL_law_504 ⟨by omega, by omega⟩ (fun k G1 v1 H1 locs1 hw hW1 hS1 => ?_)
  clear hSx
  have hSx := hS1
  refine lv_istore (lv' := (5, .int k) :: lwL b (q 0) (qm 0) o (nI (4 * i))) hx hb dL_law_507 hl (by decide) rfl (fun ls hl => ?_)
  refine lv_aload_n hx hb dL_law_509 rfl (lv_at hl 3 rfl) ?_
  refine lw_ld F hL hSx (j := 1) (lv_at hl 1 rfl) (lv_at hl 5 rfl) (by omega) rfl dL_law_510 dL_law_511 dL_law_513 dL_law_514 dL_law_515 ?_
  refine lw_cM F J hS1 hW1 [.int (xs (4 * i + 1))] (kX4_free l D cI cR qm M 4000 _ J.2.1 (mb, M1) hm) (cwV 1 hts gL_law_X4_free rfl rfl rfl (by decide +kernel) ⟨Nat.le_of_ble_eq_true rfl, Nat.le_of_ble_eq_true rfl⟩) rfl hl.1 rfl (Nat.le_of_ble_eq_true rfl) dL_law_516 (by omega) (by omega) (fun H2 locs2 hW2 hS2 => ?_)
  refine lv_istore (lv' := (6, .int mb) :: (5, .int k) :: lwL b (q 0) (qm 0) o (nI (4 * i))) hx hb dL_law_519 hl (by decide) rfl (fun ls hl => ?_)
  obtain ⟨e1, e2, R1⟩ := hfin v k G1 v1 hw
  refine lw_tail F J hS2 hW2 hl e1 e2 dL_law_521 dL_law_522 dL_law_525 dL_law_527 dL_law_532 dL_law_534 dL_law_537 dL_law_538 dL_law_539 dL_law_540 dL_law_542 dL_law_543 dL_law_544 dL_law_549 (by decide) (by omega) (by omega) (fun H3 locs3 hW3 hS3 => ?_)
  exact W.widen (by omega) (by omega) (kk _ _ _ _ _ _ R1 hW3 hS3 (lv_sub hl [2, 3, 4, 5, 6] rfl))
set_option maxHeartbeats 4000000 in
set_option maxRecDepth 100000 in
theorem lw_k_takeBag (F : lwF p l s m c args D cI cR cL b L xs) (J : lwJ q qm o s.heap.size) (hS : va_S (lwA s) s.heap H locs) (hW : lwW D cI cR cL q qm o G M v H) (R0 : Rel G M) {i : Nat} (hi : 4 * i + 4 ≤ L) (hL : L ≤ 2048) (hl : lv_has ls 9 (lwL b (q 0) (qm 0) o (nI (4 * i)))) (hc : cells + 4 ≤ room_1.cells) (hs : slots + 24 ≤ room_1.slots)
    (kk : lwK p l e s m args below meth c D cI cR cL q qm o b (nI (4 * i)) (cells + 4) (slots + 24) Q) :
    W p l e room_1 s m args below meth c H locs cells slots Q (F0 m 552 ls []) := by
  have hts := F.2.2.2.2.1
  obtain ⟨hx, hb, -, -, -, hfl, -⟩ := id F
  obtain ⟨r, mb, M1, hr, hm, hE, hfin⟩ := (op_takeBag (K := 4000) (Nat.le_refl 4000) R0 (xs (4 * i + 1))).ex uI
  have hSx := hS
  refine lv_aload_n hx hb dL_law_552 rfl (lv_at hl 1 rfl) ?_
  refine lw_ld F hL hSx (j := 1) (lv_at hl 0 rfl) (lv_at hl 4 rfl) (by omega) rfl dL_law_553 dL_law_554 dL_law_556 dL_law_557 dL_law_558 ?_
  refine lv_aload_n hx hb dL_law_559 rfl (lv_at hl 3 rfl) ?_
  refine lw_cL F J hS hW [.ref (q 0), .int (xs (4 * i + 1)), .ref o] (kL_takeBag l hfl D cI cR cL q G 4000 _ J.1 H.size o v r hr hE) (vx_cwSW 3 hts gL_law_L_takeBag rfl rfl rfl (by decide +kernel) ⟨Nat.le_of_ble_eq_true rfl, Nat.le_of_ble_eq_true rfl⟩) rfl hl.1 rfl (Nat.le_of_ble_eq_true rfl) dL_law_560 ⟨by omega, by omega⟩ (fun k G1 v1 H1 locs1 hw hW1 hS1 => ?_)
  clear hSx
  have hSx := hS1
  refine lv_istore (lv' := (5, .int k) :: lwL b (q 0) (qm 0) o (nI (4 * i))) hx hb dL_law_563 hl (by decide) rfl (fun ls hl => ?_)
  refine lv_aload_n hx hb dL_law_565 rfl (lv_at hl 3 rfl) ?_
  refine lw_ld F hL hSx (j := 1) (lv_at hl 1 rfl) (lv_at hl 5 rfl) (by omega) rfl dL_law_566 dL_law_567 dL_law_569 dL_law_570 dL_law_571 ?_
  refine lw_cM F J hS1 hW1 [.int (xs (4 * i + 1))] (kX4_takeBag l D cI cR qm M 4000 _ J.2.1 (mb, M1) hm) (cwV 1 hts gL_law_X4_takeBag rfl rfl rfl (by decide +kernel) ⟨Nat.le_of_ble_eq_true rfl, Nat.le_of_ble_eq_true rfl⟩) rfl hl.1 rfl (Nat.le_of_ble_eq_true rfl) dL_law_572 (by omega) (by omega) (fun H2 locs2 hW2 hS2 => ?_)
  refine lv_istore (lv' := (6, .int mb) :: (5, .int k) :: lwL b (q 0) (qm 0) o (nI (4 * i))) hx hb dL_law_575 hl (by decide) rfl (fun ls hl => ?_)
  obtain ⟨e1, e2, R1⟩ := hfin v k G1 v1 hw
  refine lw_tail F J hS2 hW2 hl e1 e2 dL_law_577 dL_law_578 dL_law_581 dL_law_583 dL_law_588 dL_law_590 dL_law_593 dL_law_594 dL_law_595 dL_law_596 dL_law_598 dL_law_599 dL_law_600 dL_law_605 (by decide) (by omega) (by omega) (fun H3 locs3 hW3 hS3 => ?_)
  exact W.widen (by omega) (by omega) (kk _ _ _ _ _ _ R1 hW3 hS3 (lv_sub hl [2, 3, 4, 5, 6] rfl))
set_option maxHeartbeats 4000000 in
set_option maxRecDepth 100000 in
theorem lw_k_takeRejects (F : lwF p l s m c args D cI cR cL b L xs) (J : lwJ q qm o s.heap.size) (hS : va_S (lwA s) s.heap H locs) (hW : lwW D cI cR cL q qm o G M v H) (R0 : Rel G M) {i : Nat} (hi : 4 * i + 4 ≤ L) (hL : L ≤ 2048) (hl : lv_has ls 9 (lwL b (q 0) (qm 0) o (nI (4 * i)))) (hc : cells + 4 ≤ room_1.cells) (hs : slots + 24 ≤ room_1.slots)
    (kk : lwK p l e s m args below meth c D cI cR cL q qm o b (nI (4 * i)) (cells + 4) (slots + 24) Q) :
    W p l e room_1 s m args below meth c H locs cells slots Q (F0 m 608 ls []) := by
  have hts := F.2.2.2.2.1
  obtain ⟨hx, hb, -, -, -, hfl, -⟩ := id F
  obtain ⟨r, G1, M1, h1, h2, R1⟩ := op_takeRejects (K := 4000) (Nat.le_refl 4000) R0
  refine lv_aload_n hx hb dL_law_608 rfl (lv_at hl 1 rfl) ?_
  refine lw_cC F J hS hW [] (kX3_takeRejects l D cI cR q G 4000 J.1 (r, G1) h1) (cwV 0 hts gL_law_X3_takeRejects rfl rfl rfl (by decide +kernel) ⟨Nat.le_of_ble_eq_true rfl, Nat.le_of_ble_eq_true rfl⟩) rfl hl.1 rfl (Nat.le_of_ble_eq_true rfl) dL_law_609 (by omega) (by omega) (fun H1 locs1 hW1 hS1 => ?_)
  refine lv_aload_n hx hb dL_law_612 rfl (lv_at hl 2 rfl) ?_
  refine lw_cM F J hS1 hW1 [] (kX4_takeRejects l D cI cR qm M 4000 J.2.1 (r, M1) h2) (cwV 0 hts gL_law_X4_takeRejects rfl rfl rfl (by decide +kernel) ⟨Nat.le_of_ble_eq_true rfl, Nat.le_of_ble_eq_true rfl⟩) rfl hl.1 rfl (Nat.le_of_ble_eq_true rfl) dL_law_613 (by omega) (by omega) (fun H2 locs2 hW2 hS2 => ?_)
  refine lv_icmp_eq (tgt := 1311) hx hb dL_law_616 (by decide) (fun _ => ?_) (fun h => absurd rfl h)
  exact W.widen (by omega) (by omega) (kk _ _ _ _ _ _ R1 hW2 hS2 hl)
set_option maxHeartbeats 4000000 in
set_option maxRecDepth 100000 in
theorem lw_k_kind (F : lwF p l s m c args D cI cR cL b L xs) (J : lwJ q qm o s.heap.size) (hS : va_S (lwA s) s.heap H locs) (hW : lwW D cI cR cL q qm o G M v H) (R0 : Rel G M) {i : Nat} (hi : 4 * i + 4 ≤ L) (hL : L ≤ 2048) (hl : lv_has ls 9 (lwL b (q 0) (qm 0) o (nI (4 * i)))) (hc : cells + 4 ≤ room_1.cells) (hs : slots + 24 ≤ room_1.slots)
    (kk : lwK p l e s m args below meth c D cI cR cL q qm o b (nI (4 * i)) (cells + 4) (slots + 24) Q) :
    W p l e room_1 s m args below meth c H locs cells slots Q (F0 m 621 ls []) := by
  have hts := F.2.2.2.2.1
  obtain ⟨hx, hb, -, -, -, hfl, -⟩ := id F
  obtain ⟨r, mb, M1, hr, hm, hE, hfin⟩ := (op_kind (K := 4000) (Nat.le_refl 4000) R0 (xs (4 * i + 1)) (xs (4 * i + 2))).ex uIA
  have hSx := hS
  refine lv_aload_n hx hb dL_law_621 rfl (lv_at hl 1 rfl) ?_
  refine lw_ld F hL hSx (j := 1) (lv_at hl 0 rfl) (lv_at hl 4 rfl) (by omega) rfl dL_law_622 dL_law_623 dL_law_625 dL_law_626 dL_law_627 ?_
  refine lw_ld F hL hSx (j := 2) (lv_at hl 0 rfl) (lv_at hl 4 rfl) (by omega) rfl dL_law_628 dL_law_629 dL_law_631 dL_law_632 dL_law_633 ?_
  refine lv_aload_n hx hb dL_law_634 rfl (lv_at hl 3 rfl) ?_
  refine lw_cL F J hS hW [.ref (q 0), .int (xs (4 * i + 1)), .int (xs (4 * i + 2)), .ref o] (kL_kind l hfl D cI cR cL q G 4000 _ _ J.1 H.size o v r hr hE) (vx_cwSW 4 hts gL_law_L_kind rfl rfl rfl (by decide +kernel) ⟨Nat.le_of_ble_eq_true rfl, Nat.le_of_ble_eq_true rfl⟩) rfl hl.1 rfl (Nat.le_of_ble_eq_true rfl) dL_law_635 ⟨by omega, by omega⟩ (fun k G1 v1 H1 locs1 hw hW1 hS1 => ?_)
  clear hSx
  have hSx := hS1
  refine lv_istore (lv' := (5, .int k) :: lwL b (q 0) (qm 0) o (nI (4 * i))) hx hb dL_law_638 hl (by decide) rfl (fun ls hl => ?_)
  refine lv_aload_n hx hb dL_law_640 rfl (lv_at hl 3 rfl) ?_
  refine lw_ld F hL hSx (j := 1) (lv_at hl 1 rfl) (lv_at hl 5 rfl) (by omega) rfl dL_law_641 dL_law_642 dL_law_644 dL_law_645 dL_law_646 ?_
  refine lw_ld F hL hSx (j := 2) (lv_at hl 1 rfl) (lv_at hl 5 rfl) (by omega) rfl dL_law_647 dL_law_648 dL_law_650 dL_law_651 dL_law_652 ?_
  refine lw_cM F J hS1 hW1 [.int (xs (4 * i + 1)), .int (xs (4 * i + 2))] (kX4_kind l D cI cR qm M 4000 _ _ J.2.1 (mb, M1) hm) (cwV 2 hts gL_law_X4_kind rfl rfl rfl (by decide +kernel) ⟨Nat.le_of_ble_eq_true rfl, Nat.le_of_ble_eq_true rfl⟩) rfl hl.1 rfl (Nat.le_of_ble_eq_true rfl) dL_law_653 (by omega) (by omega) (fun H2 locs2 hW2 hS2 => ?_)
  refine lv_istore (lv' := (6, .int mb) :: (5, .int k) :: lwL b (q 0) (qm 0) o (nI (4 * i))) hx hb dL_law_656 hl (by decide) rfl (fun ls hl => ?_)
  obtain ⟨e1, e2, R1⟩ := hfin v k G1 v1 hw
  refine lw_tail F J hS2 hW2 hl e1 e2 dL_law_658 dL_law_659 dL_law_662 dL_law_664 dL_law_669 dL_law_671 dL_law_674 dL_law_675 dL_law_676 dL_law_677 dL_law_679 dL_law_680 dL_law_681 dL_law_686 (by decide) (by omega) (by omega) (fun H3 locs3 hW3 hS3 => ?_)
  exact W.widen (by omega) (by omega) (kk _ _ _ _ _ _ R1 hW3 hS3 (lv_sub hl [2, 3, 4, 5, 6] rfl))
set_option maxHeartbeats 4000000 in
set_option maxRecDepth 100000 in
theorem lw_k_rail (F : lwF p l s m c args D cI cR cL b L xs) (J : lwJ q qm o s.heap.size) (hS : va_S (lwA s) s.heap H locs) (hW : lwW D cI cR cL q qm o G M v H) (R0 : Rel G M) {i : Nat} (hi : 4 * i + 4 ≤ L) (hL : L ≤ 2048) (hl : lv_has ls 9 (lwL b (q 0) (qm 0) o (nI (4 * i)))) (hc : cells + 4 ≤ room_1.cells) (hs : slots + 24 ≤ room_1.slots)
    (kk : lwK p l e s m args below meth c D cI cR cL q qm o b (nI (4 * i)) (cells + 4) (slots + 24) Q) :
    W p l e room_1 s m args below meth c H locs cells slots Q (F0 m 689 ls []) := by
  have hts := F.2.2.2.2.1
  obtain ⟨hx, hb, -, -, -, hfl, -⟩ := id F
  obtain ⟨r, mb, M1, hr, hm, hE, hfin⟩ := (op_rail (K := 4000) (Nat.le_refl 4000) R0 (xs (4 * i + 1)) (xs (4 * i + 2))).ex uIA
  have hSx := hS
  refine lv_aload_n hx hb dL_law_689 rfl (lv_at hl 1 rfl) ?_
  refine lw_ld F hL hSx (j := 1) (lv_at hl 0 rfl) (lv_at hl 4 rfl) (by omega) rfl dL_law_690 dL_law_691 dL_law_693 dL_law_694 dL_law_695 ?_
  refine lw_ld F hL hSx (j := 2) (lv_at hl 0 rfl) (lv_at hl 4 rfl) (by omega) rfl dL_law_696 dL_law_697 dL_law_699 dL_law_700 dL_law_701 ?_
  refine lv_aload_n hx hb dL_law_702 rfl (lv_at hl 3 rfl) ?_
  refine lw_cL F J hS hW [.ref (q 0), .int (xs (4 * i + 1)), .int (xs (4 * i + 2)), .ref o] (kL_rail l hfl D cI cR cL q G 4000 _ _ J.1 H.size o v r hr hE) (vx_cwSW 4 hts gL_law_L_rail rfl rfl rfl (by decide +kernel) ⟨Nat.le_of_ble_eq_true rfl, Nat.le_of_ble_eq_true rfl⟩) rfl hl.1 rfl (Nat.le_of_ble_eq_true rfl) dL_law_703 ⟨by omega, by omega⟩ (fun k G1 v1 H1 locs1 hw hW1 hS1 => ?_)
  clear hSx
  have hSx := hS1
  refine lv_istore (lv' := (5, .int k) :: lwL b (q 0) (qm 0) o (nI (4 * i))) hx hb dL_law_706 hl (by decide) rfl (fun ls hl => ?_)
  refine lv_aload_n hx hb dL_law_708 rfl (lv_at hl 3 rfl) ?_
  refine lw_ld F hL hSx (j := 1) (lv_at hl 1 rfl) (lv_at hl 5 rfl) (by omega) rfl dL_law_709 dL_law_710 dL_law_712 dL_law_713 dL_law_714 ?_
  refine lw_ld F hL hSx (j := 2) (lv_at hl 1 rfl) (lv_at hl 5 rfl) (by omega) rfl dL_law_715 dL_law_716 dL_law_718 dL_law_719 dL_law_720 ?_
  refine lw_cM F J hS1 hW1 [.int (xs (4 * i + 1)), .int (xs (4 * i + 2))] (kX4_rail l D cI cR qm M 4000 _ _ J.2.1 (mb, M1) hm) (cwV 2 hts gL_law_X4_rail rfl rfl rfl (by decide +kernel) ⟨Nat.le_of_ble_eq_true rfl, Nat.le_of_ble_eq_true rfl⟩) rfl hl.1 rfl (Nat.le_of_ble_eq_true rfl) dL_law_721 (by omega) (by omega) (fun H2 locs2 hW2 hS2 => ?_)
  refine lv_istore (lv' := (6, .int mb) :: (5, .int k) :: lwL b (q 0) (qm 0) o (nI (4 * i))) hx hb dL_law_724 hl (by decide) rfl (fun ls hl => ?_)
  obtain ⟨e1, e2, R1⟩ := hfin v k G1 v1 hw
  refine lw_tail F J hS2 hW2 hl e1 e2 dL_law_726 dL_law_727 dL_law_730 dL_law_732 dL_law_737 dL_law_739 dL_law_742 dL_law_743 dL_law_744 dL_law_745 dL_law_747 dL_law_748 dL_law_749 dL_law_754 (by decide) (by omega) (by omega) (fun H3 locs3 hW3 hS3 => ?_)
  exact W.widen (by omega) (by omega) (kk _ _ _ _ _ _ R1 hW3 hS3 (lv_sub hl [2, 3, 4, 5, 6] rfl))
set_option maxHeartbeats 4000000 in
set_option maxRecDepth 100000 in
theorem lw_k_count (F : lwF p l s m c args D cI cR cL b L xs) (J : lwJ q qm o s.heap.size) (hS : va_S (lwA s) s.heap H locs) (hW : lwW D cI cR cL q qm o G M v H) (R0 : Rel G M) {i : Nat} (hi : 4 * i + 4 ≤ L) (hL : L ≤ 2048) (hl : lv_has ls 9 (lwL b (q 0) (qm 0) o (nI (4 * i)))) (hc : cells + 4 ≤ room_1.cells) (hs : slots + 24 ≤ room_1.slots)
    (kk : lwK p l e s m args below meth c D cI cR cL q qm o b (nI (4 * i)) (cells + 4) (slots + 24) Q) :
    W p l e room_1 s m args below meth c H locs cells slots Q (F0 m 757 ls []) := by
  have hts := F.2.2.2.2.1
  obtain ⟨hx, hb, -, -, -, hfl, -⟩ := id F
  obtain ⟨r, mb, M1, hr, hm, hE, hfin⟩ := (op_count (K := 4000) R0 (xs (4 * i + 1)) (xs (4 * i + 2))).ex uI
  have hSx := hS
  refine lv_aload_n hx hb dL_law_757 rfl (lv_at hl 1 rfl) ?_
  refine lw_ld F hL hSx (j := 1) (lv_at hl 0 rfl) (lv_at hl 4 rfl) (by omega) rfl dL_law_758 dL_law_759 dL_law_761 dL_law_762 dL_law_763 ?_
  refine lw_ld F hL hSx (j := 2) (lv_at hl 0 rfl) (lv_at hl 4 rfl) (by omega) rfl dL_law_764 dL_law_765 dL_law_767 dL_law_768 dL_law_769 ?_
  refine lv_aload_n hx hb dL_law_770 rfl (lv_at hl 3 rfl) ?_
  refine lw_cL F J hS hW [.ref (q 0), .int (xs (4 * i + 1)), .int (xs (4 * i + 2)), .ref o] (kL_count l hfl D cI cR cL q G 4000 _ _ J.1 H.size o v r hr hE) (vx_cwSW 4 hts gL_law_L_count rfl rfl rfl (by decide +kernel) ⟨Nat.le_of_ble_eq_true rfl, Nat.le_of_ble_eq_true rfl⟩) rfl hl.1 rfl (Nat.le_of_ble_eq_true rfl) dL_law_771 ⟨by omega, by omega⟩ (fun k G1 v1 H1 locs1 hw hW1 hS1 => ?_)
  clear hSx
  have hSx := hS1
  refine lv_istore (lv' := (5, .int k) :: lwL b (q 0) (qm 0) o (nI (4 * i))) hx hb dL_law_774 hl (by decide) rfl (fun ls hl => ?_)
  refine lv_aload_n hx hb dL_law_776 rfl (lv_at hl 3 rfl) ?_
  refine lw_ld F hL hSx (j := 1) (lv_at hl 1 rfl) (lv_at hl 5 rfl) (by omega) rfl dL_law_777 dL_law_778 dL_law_780 dL_law_781 dL_law_782 ?_
  refine lw_ld F hL hSx (j := 2) (lv_at hl 1 rfl) (lv_at hl 5 rfl) (by omega) rfl dL_law_783 dL_law_784 dL_law_786 dL_law_787 dL_law_788 ?_
  refine lw_cM F J hS1 hW1 [.int (xs (4 * i + 1)), .int (xs (4 * i + 2))] (kX4_count l D cI cR qm M 4000 _ _ J.2.1 (mb, M1) hm) (cwV 2 hts gL_law_X4_count rfl rfl rfl (by decide +kernel) ⟨Nat.le_of_ble_eq_true rfl, Nat.le_of_ble_eq_true rfl⟩) rfl hl.1 rfl (Nat.le_of_ble_eq_true rfl) dL_law_789 (by omega) (by omega) (fun H2 locs2 hW2 hS2 => ?_)
  refine lv_istore (lv' := (6, .int mb) :: (5, .int k) :: lwL b (q 0) (qm 0) o (nI (4 * i))) hx hb dL_law_792 hl (by decide) rfl (fun ls hl => ?_)
  obtain ⟨e1, e2, R1⟩ := hfin v k G1 v1 hw
  refine lw_tail F J hS2 hW2 hl e1 e2 dL_law_794 dL_law_795 dL_law_798 dL_law_800 dL_law_805 dL_law_807 dL_law_810 dL_law_811 dL_law_812 dL_law_813 dL_law_815 dL_law_816 dL_law_817 dL_law_822 (by decide) (by omega) (by omega) (fun H3 locs3 hW3 hS3 => ?_)
  exact W.widen (by omega) (by omega) (kk _ _ _ _ _ _ R1 hW3 hS3 (lv_sub hl [2, 3, 4, 5, 6] rfl))
set_option maxHeartbeats 4000000 in
set_option maxRecDepth 100000 in
theorem lw_k_value (F : lwF p l s m c args D cI cR cL b L xs) (J : lwJ q qm o s.heap.size) (hS : va_S (lwA s) s.heap H locs) (hW : lwW D cI cR cL q qm o G M v H) (R0 : Rel G M) {i : Nat} (hi : 4 * i + 4 ≤ L) (hL : L ≤ 2048) (hl : lv_has ls 9 (lwL b (q 0) (qm 0) o (nI (4 * i)))) (hc : cells + 4 ≤ room_1.cells) (hs : slots + 24 ≤ room_1.slots)
    (kk : lwK p l e s m args below meth c D cI cR cL q qm o b (nI (4 * i)) (cells + 4) (slots + 24) Q) :
    W p l e room_1 s m args below meth c H locs cells slots Q (F0 m 825 ls []) := by
  have hts := F.2.2.2.2.1
  obtain ⟨hx, hb, -, -, -, hfl, -⟩ := id F
  obtain ⟨r, mb, M1, hr, hm, hE, hfin⟩ := (op_value (K := 4000) (Nat.le_refl 4000) R0 (xs (4 * i + 1))).ex uA
  have hSx := hS
  refine lv_aload_n hx hb dL_law_825 rfl (lv_at hl 1 rfl) ?_
  refine lw_ld F hL hSx (j := 1) (lv_at hl 0 rfl) (lv_at hl 4 rfl) (by omega) rfl dL_law_826 dL_law_827 dL_law_829 dL_law_830 dL_law_831 ?_
  refine lv_aload_n hx hb dL_law_832 rfl (lv_at hl 3 rfl) ?_
  refine lw_cL F J hS hW [.ref (q 0), .int (xs (4 * i + 1)), .ref o] (kL_value l hfl D cI cR cL q G 4000 _ J.1 H.size o v r hr hE) (vx_cwSW 3 hts gL_law_L_value rfl rfl rfl (by decide +kernel) ⟨Nat.le_of_ble_eq_true rfl, Nat.le_of_ble_eq_true rfl⟩) rfl hl.1 rfl (Nat.le_of_ble_eq_true rfl) dL_law_833 ⟨by omega, by omega⟩ (fun k G1 v1 H1 locs1 hw hW1 hS1 => ?_)
  clear hSx
  have hSx := hS1
  refine lv_istore (lv' := (5, .int k) :: lwL b (q 0) (qm 0) o (nI (4 * i))) hx hb dL_law_836 hl (by decide) rfl (fun ls hl => ?_)
  refine lv_aload_n hx hb dL_law_838 rfl (lv_at hl 3 rfl) ?_
  refine lw_ld F hL hSx (j := 1) (lv_at hl 1 rfl) (lv_at hl 5 rfl) (by omega) rfl dL_law_839 dL_law_840 dL_law_842 dL_law_843 dL_law_844 ?_
  refine lw_cM F J hS1 hW1 [.int (xs (4 * i + 1))] (kX4_value l D cI cR qm M 4000 _ J.2.1 (mb, M1) hm) (cwV 1 hts gL_law_X4_value rfl rfl rfl (by decide +kernel) ⟨Nat.le_of_ble_eq_true rfl, Nat.le_of_ble_eq_true rfl⟩) rfl hl.1 rfl (Nat.le_of_ble_eq_true rfl) dL_law_845 (by omega) (by omega) (fun H2 locs2 hW2 hS2 => ?_)
  refine lv_istore (lv' := (6, .int mb) :: (5, .int k) :: lwL b (q 0) (qm 0) o (nI (4 * i))) hx hb dL_law_848 hl (by decide) rfl (fun ls hl => ?_)
  obtain ⟨e1, e2, R1⟩ := hfin v k G1 v1 hw
  refine lw_tail F J hS2 hW2 hl e1 e2 dL_law_850 dL_law_851 dL_law_854 dL_law_856 dL_law_861 dL_law_863 dL_law_866 dL_law_867 dL_law_868 dL_law_869 dL_law_871 dL_law_872 dL_law_873 dL_law_878 (by decide) (by omega) (by omega) (fun H3 locs3 hW3 hS3 => ?_)
  exact W.widen (by omega) (by omega) (kk _ _ _ _ _ _ R1 hW3 hS3 (lv_sub hl [2, 3, 4, 5, 6] rfl))
set_option maxHeartbeats 4000000 in
set_option maxRecDepth 100000 in
theorem lw_k_where (F : lwF p l s m c args D cI cR cL b L xs) (J : lwJ q qm o s.heap.size) (hS : va_S (lwA s) s.heap H locs) (hW : lwW D cI cR cL q qm o G M v H) (R0 : Rel G M) {i : Nat} (hi : 4 * i + 4 ≤ L) (hL : L ≤ 2048) (hl : lv_has ls 9 (lwL b (q 0) (qm 0) o (nI (4 * i)))) (hc : cells + 4 ≤ room_1.cells) (hs : slots + 24 ≤ room_1.slots)
    (kk : lwK p l e s m args below meth c D cI cR cL q qm o b (nI (4 * i)) (cells + 4) (slots + 24) Q) :
    W p l e room_1 s m args below meth c H locs cells slots Q (F0 m 881 ls []) := by
  have hts := F.2.2.2.2.1
  obtain ⟨hx, hb, -, -, -, hfl, -⟩ := id F
  obtain ⟨r, mb, M1, hr, hm, hE, hfin⟩ := (op_where (K := 4000) (Nat.le_refl 4000) R0 (xs (4 * i + 1)) (xs (4 * i + 2))).ex uIA
  have hSx := hS
  refine lv_aload_n hx hb dL_law_881 rfl (lv_at hl 1 rfl) ?_
  refine lw_ld F hL hSx (j := 1) (lv_at hl 0 rfl) (lv_at hl 4 rfl) (by omega) rfl dL_law_882 dL_law_883 dL_law_885 dL_law_886 dL_law_887 ?_
  refine lw_ld F hL hSx (j := 2) (lv_at hl 0 rfl) (lv_at hl 4 rfl) (by omega) rfl dL_law_888 dL_law_889 dL_law_891 dL_law_892 dL_law_893 ?_
  refine lv_aload_n hx hb dL_law_894 rfl (lv_at hl 3 rfl) ?_
  refine lw_cL F J hS hW [.ref (q 0), .int (xs (4 * i + 1)), .int (xs (4 * i + 2)), .ref o] (kL_where l hfl D cI cR cL q G 4000 _ _ J.1 H.size o v r hr hE) (vx_cwSW 4 hts gL_law_L_where rfl rfl rfl (by decide +kernel) ⟨Nat.le_of_ble_eq_true rfl, Nat.le_of_ble_eq_true rfl⟩) rfl hl.1 rfl (Nat.le_of_ble_eq_true rfl) dL_law_895 ⟨by omega, by omega⟩ (fun k G1 v1 H1 locs1 hw hW1 hS1 => ?_)
  clear hSx
  have hSx := hS1
  refine lv_istore (lv' := (5, .int k) :: lwL b (q 0) (qm 0) o (nI (4 * i))) hx hb dL_law_898 hl (by decide) rfl (fun ls hl => ?_)
  refine lv_aload_n hx hb dL_law_900 rfl (lv_at hl 3 rfl) ?_
  refine lw_ld F hL hSx (j := 1) (lv_at hl 1 rfl) (lv_at hl 5 rfl) (by omega) rfl dL_law_901 dL_law_902 dL_law_904 dL_law_905 dL_law_906 ?_
  refine lw_ld F hL hSx (j := 2) (lv_at hl 1 rfl) (lv_at hl 5 rfl) (by omega) rfl dL_law_907 dL_law_908 dL_law_910 dL_law_911 dL_law_912 ?_
  refine lw_cM F J hS1 hW1 [.int (xs (4 * i + 1)), .int (xs (4 * i + 2))] (kX4_where l D cI cR qm M 4000 _ _ J.2.1 (mb, M1) hm) (cwV 2 hts gL_law_X4_where rfl rfl rfl (by decide +kernel) ⟨Nat.le_of_ble_eq_true rfl, Nat.le_of_ble_eq_true rfl⟩) rfl hl.1 rfl (Nat.le_of_ble_eq_true rfl) dL_law_913 (by omega) (by omega) (fun H2 locs2 hW2 hS2 => ?_)
  refine lv_istore (lv' := (6, .int mb) :: (5, .int k) :: lwL b (q 0) (qm 0) o (nI (4 * i))) hx hb dL_law_916 hl (by decide) rfl (fun ls hl => ?_)
  obtain ⟨e1, e2, R1⟩ := hfin v k G1 v1 hw
  refine lw_tail F J hS2 hW2 hl e1 e2 dL_law_918 dL_law_919 dL_law_922 dL_law_924 dL_law_929 dL_law_931 dL_law_934 dL_law_935 dL_law_936 dL_law_937 dL_law_939 dL_law_940 dL_law_941 dL_law_946 (by decide) (by omega) (by omega) (fun H3 locs3 hW3 hS3 => ?_)
  exact W.widen (by omega) (by omega) (kk _ _ _ _ _ _ R1 hW3 hS3 (lv_sub hl [2, 3, 4, 5, 6] rfl))
set_option maxHeartbeats 4000000 in
set_option maxRecDepth 100000 in
theorem lw_k_mostWear (F : lwF p l s m c args D cI cR cL b L xs) (J : lwJ q qm o s.heap.size) (hS : va_S (lwA s) s.heap H locs) (hW : lwW D cI cR cL q qm o G M v H) (R0 : Rel G M) {i : Nat} (hi : 4 * i + 4 ≤ L) (hL : L ≤ 2048) (hl : lv_has ls 9 (lwL b (q 0) (qm 0) o (nI (4 * i)))) (hc : cells + 4 ≤ room_1.cells) (hs : slots + 24 ≤ room_1.slots)
    (kk : lwK p l e s m args below meth c D cI cR cL q qm o b (nI (4 * i)) (cells + 4) (slots + 24) Q) :
    W p l e room_1 s m args below meth c H locs cells slots Q (F0 m 949 ls []) := by
  have hts := F.2.2.2.2.1
  obtain ⟨hx, hb, -, -, -, hfl, -⟩ := id F
  obtain ⟨r, mb, M1, hr, hm, hE, hfin⟩ := (op_mostWear (K := 4000) (Nat.le_refl 4000) R0 (xs (4 * i + 1))).ex uI
  have hSx := hS
  refine lv_aload_n hx hb dL_law_949 rfl (lv_at hl 1 rfl) ?_
  refine lw_ld F hL hSx (j := 1) (lv_at hl 0 rfl) (lv_at hl 4 rfl) (by omega) rfl dL_law_950 dL_law_951 dL_law_953 dL_law_954 dL_law_955 ?_
  refine lv_aload_n hx hb dL_law_956 rfl (lv_at hl 3 rfl) ?_
  refine lw_cL F J hS hW [.ref (q 0), .int (xs (4 * i + 1)), .ref o] (kL_mostWear l hfl D cI cR cL q G 4000 _ J.1 H.size o v r hr hE) (vx_cwSW 3 hts gL_law_L_mostWear rfl rfl rfl (by decide +kernel) ⟨Nat.le_of_ble_eq_true rfl, Nat.le_of_ble_eq_true rfl⟩) rfl hl.1 rfl (Nat.le_of_ble_eq_true rfl) dL_law_957 ⟨by omega, by omega⟩ (fun k G1 v1 H1 locs1 hw hW1 hS1 => ?_)
  clear hSx
  have hSx := hS1
  refine lv_istore (lv' := (5, .int k) :: lwL b (q 0) (qm 0) o (nI (4 * i))) hx hb dL_law_960 hl (by decide) rfl (fun ls hl => ?_)
  refine lv_aload_n hx hb dL_law_962 rfl (lv_at hl 3 rfl) ?_
  refine lw_ld F hL hSx (j := 1) (lv_at hl 1 rfl) (lv_at hl 5 rfl) (by omega) rfl dL_law_963 dL_law_964 dL_law_966 dL_law_967 dL_law_968 ?_
  refine lw_cM F J hS1 hW1 [.int (xs (4 * i + 1))] (kX4_mostWear l D cI cR qm M 4000 _ J.2.1 (mb, M1) hm) (cwV 1 hts gL_law_X4_mostWear rfl rfl rfl (by decide +kernel) ⟨Nat.le_of_ble_eq_true rfl, Nat.le_of_ble_eq_true rfl⟩) rfl hl.1 rfl (Nat.le_of_ble_eq_true rfl) dL_law_969 (by omega) (by omega) (fun H2 locs2 hW2 hS2 => ?_)
  refine lv_istore (lv' := (6, .int mb) :: (5, .int k) :: lwL b (q 0) (qm 0) o (nI (4 * i))) hx hb dL_law_972 hl (by decide) rfl (fun ls hl => ?_)
  obtain ⟨e1, e2, R1⟩ := hfin v k G1 v1 hw
  refine lw_tail F J hS2 hW2 hl e1 e2 dL_law_974 dL_law_975 dL_law_978 dL_law_980 dL_law_985 dL_law_987 dL_law_990 dL_law_991 dL_law_992 dL_law_993 dL_law_995 dL_law_996 dL_law_997 dL_law_1002 (by decide) (by omega) (by omega) (fun H3 locs3 hW3 hS3 => ?_)
  exact W.widen (by omega) (by omega) (kk _ _ _ _ _ _ R1 hW3 hS3 (lv_sub hl [2, 3, 4, 5, 6] rfl))
set_option maxHeartbeats 4000000 in
set_option maxRecDepth 100000 in
theorem lw_k_bestGap (F : lwF p l s m c args D cI cR cL b L xs) (J : lwJ q qm o s.heap.size) (hS : va_S (lwA s) s.heap H locs) (hW : lwW D cI cR cL q qm o G M v H) (R0 : Rel G M) {i : Nat} (hi : 4 * i + 4 ≤ L) (hL : L ≤ 2048) (hl : lv_has ls 9 (lwL b (q 0) (qm 0) o (nI (4 * i)))) (hc : cells + 4 ≤ room_1.cells) (hs : slots + 24 ≤ room_1.slots)
    (kk : lwK p l e s m args below meth c D cI cR cL q qm o b (nI (4 * i)) (cells + 4) (slots + 24) Q) :
    W p l e room_1 s m args below meth c H locs cells slots Q (F0 m 1005 ls []) := by
  have hts := F.2.2.2.2.1
  obtain ⟨hx, hb, -, -, -, hfl, -⟩ := id F
  obtain ⟨r, mb, M1, hr, hm, hE, hfin⟩ := (op_bestGap (K := 4000) (Nat.le_refl 4000) R0 (xs (4 * i + 1))).ex uI
  have hSx := hS
  refine lv_aload_n hx hb dL_law_1005 rfl (lv_at hl 1 rfl) ?_
  refine lw_ld F hL hSx (j := 1) (lv_at hl 0 rfl) (lv_at hl 4 rfl) (by omega) rfl dL_law_1006 dL_law_1007 dL_law_1009 dL_law_1010 dL_law_1011 ?_
  refine lv_aload_n hx hb dL_law_1012 rfl (lv_at hl 3 rfl) ?_
  refine lw_cL F J hS hW [.ref (q 0), .int (xs (4 * i + 1)), .ref o] (kL_bestGap l hfl D cI cR cL q G 4000 _ J.1 H.size o v r hr hE) (vx_cwSW 3 hts gL_law_L_bestGap rfl rfl rfl (by decide +kernel) ⟨Nat.le_of_ble_eq_true rfl, Nat.le_of_ble_eq_true rfl⟩) rfl hl.1 rfl (Nat.le_of_ble_eq_true rfl) dL_law_1013 ⟨by omega, by omega⟩ (fun k G1 v1 H1 locs1 hw hW1 hS1 => ?_)
  clear hSx
  have hSx := hS1
  refine lv_istore (lv' := (5, .int k) :: lwL b (q 0) (qm 0) o (nI (4 * i))) hx hb dL_law_1016 hl (by decide) rfl (fun ls hl => ?_)
  refine lv_aload_n hx hb dL_law_1018 rfl (lv_at hl 3 rfl) ?_
  refine lw_ld F hL hSx (j := 1) (lv_at hl 1 rfl) (lv_at hl 5 rfl) (by omega) rfl dL_law_1019 dL_law_1020 dL_law_1022 dL_law_1023 dL_law_1024 ?_
  refine lw_cM F J hS1 hW1 [.int (xs (4 * i + 1))] (kX4_bestGap l D cI cR qm M 4000 _ J.2.1 (mb, M1) hm) (cwV 1 hts gL_law_X4_bestGap rfl rfl rfl (by decide +kernel) ⟨Nat.le_of_ble_eq_true rfl, Nat.le_of_ble_eq_true rfl⟩) rfl hl.1 rfl (Nat.le_of_ble_eq_true rfl) dL_law_1025 (by omega) (by omega) (fun H2 locs2 hW2 hS2 => ?_)
  refine lv_istore (lv' := (6, .int mb) :: (5, .int k) :: lwL b (q 0) (qm 0) o (nI (4 * i))) hx hb dL_law_1028 hl (by decide) rfl (fun ls hl => ?_)
  obtain ⟨e1, e2, R1⟩ := hfin v k G1 v1 hw
  refine lw_tail F J hS2 hW2 hl e1 e2 dL_law_1030 dL_law_1031 dL_law_1034 dL_law_1036 dL_law_1041 dL_law_1043 dL_law_1046 dL_law_1047 dL_law_1048 dL_law_1049 dL_law_1051 dL_law_1052 dL_law_1053 dL_law_1058 (by decide) (by omega) (by omega) (fun H3 locs3 hW3 hS3 => ?_)
  exact W.widen (by omega) (by omega) (kk _ _ _ _ _ _ R1 hW3 hS3 (lv_sub hl [2, 3, 4, 5, 6] rfl))
set_option maxHeartbeats 4000000 in
set_option maxRecDepth 100000 in
theorem lw_k_supply (F : lwF p l s m c args D cI cR cL b L xs) (J : lwJ q qm o s.heap.size) (hS : va_S (lwA s) s.heap H locs) (hW : lwW D cI cR cL q qm o G M v H) (R0 : Rel G M) {i : Nat} (hi : 4 * i + 4 ≤ L) (hL : L ≤ 2048) (hl : lv_has ls 9 (lwL b (q 0) (qm 0) o (nI (4 * i)))) (hc : cells + 4 ≤ room_1.cells) (hs : slots + 24 ≤ room_1.slots)
    (kk : lwK p l e s m args below meth c D cI cR cL q qm o b (nI (4 * i)) (cells + 4) (slots + 24) Q) :
    W p l e room_1 s m args below meth c H locs cells slots Q (F0 m 1061 ls []) := by
  have hts := F.2.2.2.2.1
  obtain ⟨hx, hb, -, -, -, hfl, -⟩ := id F
  obtain ⟨r, mb, M1, hr, hm, hE, hfin⟩ := (op_supply (K := 4000) (Nat.le_refl 4000) R0 (xs (4 * i + 1))).ex uI
  have hSx := hS
  refine lv_aload_n hx hb dL_law_1061 rfl (lv_at hl 1 rfl) ?_
  refine lw_ld F hL hSx (j := 1) (lv_at hl 0 rfl) (lv_at hl 4 rfl) (by omega) rfl dL_law_1062 dL_law_1063 dL_law_1065 dL_law_1066 dL_law_1067 ?_
  refine lv_aload_n hx hb dL_law_1068 rfl (lv_at hl 3 rfl) ?_
  refine lw_cL F J hS hW [.ref (q 0), .int (xs (4 * i + 1)), .ref o] (kL_supply l hfl D cI cR cL q G 4000 _ J.1 H.size o v r hr hE) (vx_cwSW 3 hts gL_law_L_supply rfl rfl rfl (by decide +kernel) ⟨Nat.le_of_ble_eq_true rfl, Nat.le_of_ble_eq_true rfl⟩) rfl hl.1 rfl (Nat.le_of_ble_eq_true rfl) dL_law_1069 ⟨by omega, by omega⟩ (fun k G1 v1 H1 locs1 hw hW1 hS1 => ?_)
  clear hSx
  have hSx := hS1
  refine lv_istore (lv' := (5, .int k) :: lwL b (q 0) (qm 0) o (nI (4 * i))) hx hb dL_law_1072 hl (by decide) rfl (fun ls hl => ?_)
  refine lv_aload_n hx hb dL_law_1074 rfl (lv_at hl 3 rfl) ?_
  refine lw_ld F hL hSx (j := 1) (lv_at hl 1 rfl) (lv_at hl 5 rfl) (by omega) rfl dL_law_1075 dL_law_1076 dL_law_1078 dL_law_1079 dL_law_1080 ?_
  refine lw_cM F J hS1 hW1 [.int (xs (4 * i + 1))] (kX4_supply l D cI cR qm M 4000 _ J.2.1 (mb, M1) hm) (cwV 1 hts gL_law_X4_supply rfl rfl rfl (by decide +kernel) ⟨Nat.le_of_ble_eq_true rfl, Nat.le_of_ble_eq_true rfl⟩) rfl hl.1 rfl (Nat.le_of_ble_eq_true rfl) dL_law_1081 (by omega) (by omega) (fun H2 locs2 hW2 hS2 => ?_)
  refine lv_istore (lv' := (6, .int mb) :: (5, .int k) :: lwL b (q 0) (qm 0) o (nI (4 * i))) hx hb dL_law_1084 hl (by decide) rfl (fun ls hl => ?_)
  obtain ⟨e1, e2, R1⟩ := hfin v k G1 v1 hw
  refine lw_tail F J hS2 hW2 hl e1 e2 dL_law_1086 dL_law_1087 dL_law_1090 dL_law_1092 dL_law_1097 dL_law_1099 dL_law_1102 dL_law_1103 dL_law_1104 dL_law_1105 dL_law_1107 dL_law_1108 dL_law_1109 dL_law_1114 (by decide) (by omega) (by omega) (fun H3 locs3 hW3 hS3 => ?_)
  exact W.widen (by omega) (by omega) (kk _ _ _ _ _ _ R1 hW3 hS3 (lv_sub hl [2, 3, 4, 5, 6] rfl))
set_option maxHeartbeats 4000000 in
set_option maxRecDepth 100000 in
theorem lw_k_worstKind (F : lwF p l s m c args D cI cR cL b L xs) (J : lwJ q qm o s.heap.size) (hS : va_S (lwA s) s.heap H locs) (hW : lwW D cI cR cL q qm o G M v H) (R0 : Rel G M) {i : Nat} (hi : 4 * i + 4 ≤ L) (hL : L ≤ 2048) (hl : lv_has ls 9 (lwL b (q 0) (qm 0) o (nI (4 * i)))) (hc : cells + 4 ≤ room_1.cells) (hs : slots + 24 ≤ room_1.slots)
    (kk : lwK p l e s m args below meth c D cI cR cL q qm o b (nI (4 * i)) (cells + 4) (slots + 24) Q) :
    W p l e room_1 s m args below meth c H locs cells slots Q (F0 m 1117 ls []) := by
  have hts := F.2.2.2.2.1
  obtain ⟨hx, hb, -, -, -, hfl, -⟩ := id F
  obtain ⟨r, M1, h1, h2, R1⟩ := op_worst (K := 4000) (Nat.le_refl 4000) R0
  refine lv_aload_n hx hb dL_law_1117 rfl (lv_at hl 1 rfl) ?_
  refine lw_cI hS hW (va_runV (As := []) (rest := []) F.fix (kX3_worstKind l D cI cR q G 4000 r h1) (cwV 0 hts gL_law_X3_worstKind rfl rfl rfl (by decide +kernel) ⟨Nat.le_of_ble_eq_true rfl, Nat.le_of_ble_eq_true rfl⟩) (mPreV (mTyL_K F.2.2.2.2.2.2.2.2.1) hW.1 0 rfl rfl) rfl rfl hl.1 rfl (lv_room (Nat.le_of_ble_eq_true rfl)) dL_law_1118 ⟨by omega, by omega⟩) (fun H1 locs1 hW1 hS1 => ?_)
  refine lv_aload_n hx hb dL_law_1121 rfl (lv_at hl 2 rfl) ?_
  refine lw_cM F J hS1 hW1 [] (kX4_worstKind l D cI cR qm M 4000 J.2.1 (r, M1) h2) (cwV 0 hts gL_law_X4_worstKind rfl rfl rfl (by decide +kernel) ⟨Nat.le_of_ble_eq_true rfl, Nat.le_of_ble_eq_true rfl⟩) rfl hl.1 rfl (Nat.le_of_ble_eq_true rfl) dL_law_1122 (by omega) (by omega) (fun H2 locs2 hW2 hS2 => ?_)
  refine lv_icmp_eq (tgt := 1311) hx hb dL_law_1125 (by decide) (fun _ => ?_) (fun h => absurd rfl h)
  exact W.widen (by omega) (by omega) (kk _ _ _ _ _ _ R1 hW2 hS2 hl)
set_option maxHeartbeats 4000000 in
set_option maxRecDepth 100000 in
theorem lw_k_append (F : lwF p l s m c args D cI cR cL b L xs) (J : lwJ q qm o s.heap.size) (hS : va_S (lwA s) s.heap H locs) (hW : lwW D cI cR cL q qm o G M v H) (R0 : Rel G M) {i : Nat} (hi : 4 * i + 4 ≤ L) (hL : L ≤ 2048) (hl : lv_has ls 9 (lwL b (q 0) (qm 0) o (nI (4 * i)))) (hc : cells + 4 ≤ room_1.cells) (hs : slots + 24 ≤ room_1.slots)
    (kk : lwK p l e s m args below meth c D cI cR cL q qm o b (nI (4 * i)) (cells + 4) (slots + 24) Q) :
    W p l e room_1 s m args below meth c H locs cells slots Q (F0 m 1171 ls []) := by
  have hts := F.2.2.2.2.1
  obtain ⟨hx, hb, -, -, -, hfl, -⟩ := id F
  obtain ⟨r, mb, M1, hr, hm, hE, hfin⟩ := (op_append (K := 4000) R0 (xs (4 * i + 1))).ex uAS
  have hSx := hS
  refine lv_aload_n hx hb dL_law_1171 rfl (lv_at hl 1 rfl) ?_
  refine lw_ld F hL hSx (j := 1) (lv_at hl 0 rfl) (lv_at hl 4 rfl) (by omega) rfl dL_law_1172 dL_law_1173 dL_law_1175 dL_law_1176 dL_law_1177 ?_
  refine lv_aload_n hx hb dL_law_1178 rfl (lv_at hl 3 rfl) ?_
  refine lw_cL F J hS hW [.ref (q 0), .int (xs (4 * i + 1)), .ref o] (kL_append l hfl D cI cR cL q G 4000 _ J.1 H.size o v r hr hE) (vx_cwSW 3 hts gL_law_L_append rfl rfl rfl (by decide +kernel) ⟨Nat.le_of_ble_eq_true rfl, Nat.le_of_ble_eq_true rfl⟩) rfl hl.1 rfl (Nat.le_of_ble_eq_true rfl) dL_law_1179 ⟨by omega, by omega⟩ (fun k G1 v1 H1 locs1 hw hW1 hS1 => ?_)
  clear hSx
  have hSx := hS1
  refine lv_istore (lv' := (5, .int k) :: lwL b (q 0) (qm 0) o (nI (4 * i))) hx hb dL_law_1182 hl (by decide) rfl (fun ls hl => ?_)
  refine lv_aload_n hx hb dL_law_1184 rfl (lv_at hl 3 rfl) ?_
  refine lw_ld F hL hSx (j := 1) (lv_at hl 1 rfl) (lv_at hl 5 rfl) (by omega) rfl dL_law_1185 dL_law_1186 dL_law_1188 dL_law_1189 dL_law_1190 ?_
  refine lw_cM F J hS1 hW1 [.int (xs (4 * i + 1))] (kX4_append l D cI cR qm M 4000 _ J.2.1 (mb, M1) hm) (cwV 1 hts gL_law_X4_append rfl rfl rfl (by decide +kernel) ⟨Nat.le_of_ble_eq_true rfl, Nat.le_of_ble_eq_true rfl⟩) rfl hl.1 rfl (Nat.le_of_ble_eq_true rfl) dL_law_1191 (by omega) (by omega) (fun H2 locs2 hW2 hS2 => ?_)
  refine lv_istore (lv' := (6, .int mb) :: (5, .int k) :: lwL b (q 0) (qm 0) o (nI (4 * i))) hx hb dL_law_1194 hl (by decide) rfl (fun ls hl => ?_)
  obtain ⟨e1, e2, R1⟩ := hfin v k G1 v1 hw
  refine lw_tail F J hS2 hW2 hl e1 e2 dL_law_1196 dL_law_1197 dL_law_1200 dL_law_1202 dL_law_1207 dL_law_1209 dL_law_1212 dL_law_1213 dL_law_1214 dL_law_1215 dL_law_1217 dL_law_1218 dL_law_1219 dL_law_1224 (by decide) (by omega) (by omega) (fun H3 locs3 hW3 hS3 => ?_)
  exact W.widen (by omega) (by omega) (kk _ _ _ _ _ _ R1 hW3 hS3 (lv_sub hl [2, 3, 4, 5, 6] rfl))
set_option maxHeartbeats 4000000 in
set_option maxRecDepth 100000 in
theorem lw_k_clearText (F : lwF p l s m c args D cI cR cL b L xs) (J : lwJ q qm o s.heap.size) (hS : va_S (lwA s) s.heap H locs) (hW : lwW D cI cR cL q qm o G M v H) (R0 : Rel G M) {i : Nat} (hi : 4 * i + 4 ≤ L) (hL : L ≤ 2048) (hl : lv_has ls 9 (lwL b (q 0) (qm 0) o (nI (4 * i)))) (hc : cells + 4 ≤ room_1.cells) (hs : slots + 24 ≤ room_1.slots)
    (kk : lwK p l e s m args below meth c D cI cR cL q qm o b (nI (4 * i)) (cells + 4) (slots + 24) Q) :
    W p l e room_1 s m args below meth c H locs cells slots Q (F0 m 1227 ls []) := by
  have hts := F.2.2.2.2.1
  obtain ⟨hx, hb, -, -, -, hfl, -⟩ := id F
  obtain ⟨r, G1, M1, h1, h2, R1⟩ := op_clear (K := 4000) R0
  refine lv_aload_n hx hb dL_law_1227 rfl (lv_at hl 1 rfl) ?_
  refine lw_cC F J hS hW [] (kX3_clearText l D cI cR q G 4000 J.1 (r, G1) h1) (cwV 0 hts gL_law_X3_clearText rfl rfl rfl (by decide +kernel) ⟨Nat.le_of_ble_eq_true rfl, Nat.le_of_ble_eq_true rfl⟩) rfl hl.1 rfl (Nat.le_of_ble_eq_true rfl) dL_law_1228 (by omega) (by omega) (fun H1 locs1 hW1 hS1 => ?_)
  refine lv_aload_n hx hb dL_law_1231 rfl (lv_at hl 2 rfl) ?_
  refine lw_cM F J hS1 hW1 [] (kX4_clearText l D cI cR qm M 4000 J.2.1 (r, M1) h2) (cwV 0 hts gL_law_X4_clearText rfl rfl rfl (by decide +kernel) ⟨Nat.le_of_ble_eq_true rfl, Nat.le_of_ble_eq_true rfl⟩) rfl hl.1 rfl (Nat.le_of_ble_eq_true rfl) dL_law_1232 (by omega) (by omega) (fun H2 locs2 hW2 hS2 => ?_)
  refine lv_icmp_eq (tgt := 1311) hx hb dL_law_1235 (by decide) (fun _ => ?_) (fun h => absurd rfl h)
  exact W.widen (by omega) (by omega) (kk _ _ _ _ _ _ R1 hW2 hS2 hl)
set_option maxHeartbeats 4000000 in
set_option maxRecDepth 100000 in
theorem lw_k_parse (F : lwF p l s m c args D cI cR cL b L xs) (J : lwJ q qm o s.heap.size) (hS : va_S (lwA s) s.heap H locs) (hW : lwW D cI cR cL q qm o G M v H) (R0 : Rel G M) {i : Nat} (hi : 4 * i + 4 ≤ L) (hL : L ≤ 2048) (hl : lv_has ls 9 (lwL b (q 0) (qm 0) o (nI (4 * i)))) (hc : cells + 4 ≤ room_1.cells) (hs : slots + 24 ≤ room_1.slots)
    (kk : lwK p l e s m args below meth c D cI cR cL q qm o b (nI (4 * i)) (cells + 4) (slots + 24) Q) :
    W p l e room_1 s m args below meth c H locs cells slots Q (F0 m 1240 ls []) := by
  have hts := F.2.2.2.2.1
  obtain ⟨hx, hb, -, -, -, hfl, -⟩ := id F
  obtain ⟨r, G1, M1, h1, h2, R1⟩ := op_parse (K := 4000) (Nat.le_refl 4000) R0
  refine lv_aload_n hx hb dL_law_1240 rfl (lv_at hl 1 rfl) ?_
  refine lw_cC F J hS hW [] (kX3_parse l D cI cR q G 4000 J.1 (r, G1) h1) (cwV 0 hts gL_law_X3_parse rfl rfl rfl (by decide +kernel) ⟨Nat.le_of_ble_eq_true rfl, Nat.le_of_ble_eq_true rfl⟩) rfl hl.1 rfl (Nat.le_of_ble_eq_true rfl) dL_law_1241 (by omega) (by omega) (fun H1 locs1 hW1 hS1 => ?_)
  refine lv_aload_n hx hb dL_law_1244 rfl (lv_at hl 2 rfl) ?_
  refine lw_cM F J hS1 hW1 [] (kX4_parse l D cI cR qm M 4000 J.2.1 (r, M1) h2) (cwV 0 hts gL_law_X4_parse rfl rfl rfl (by decide +kernel) ⟨Nat.le_of_ble_eq_true rfl, Nat.le_of_ble_eq_true rfl⟩) rfl hl.1 rfl (Nat.le_of_ble_eq_true rfl) dL_law_1245 (by omega) (by omega) (fun H2 locs2 hW2 hS2 => ?_)
  refine lv_icmp_eq (tgt := 1311) hx hb dL_law_1248 (by decide) (fun _ => ?_) (fun h => absurd rfl h)
  exact W.widen (by omega) (by omega) (kk _ _ _ _ _ _ R1 hW2 hS2 hl)
set_option maxHeartbeats 4000000 in
set_option maxRecDepth 100000 in
theorem lw_k_undo (F : lwF p l s m c args D cI cR cL b L xs) (J : lwJ q qm o s.heap.size) (hS : va_S (lwA s) s.heap H locs) (hW : lwW D cI cR cL q qm o G M v H) (R0 : Rel G M) {i : Nat} (hi : 4 * i + 4 ≤ L) (hL : L ≤ 2048) (hl : lv_has ls 9 (lwL b (q 0) (qm 0) o (nI (4 * i)))) (hc : cells + 4 ≤ room_1.cells) (hs : slots + 24 ≤ room_1.slots)
    (kk : lwK p l e s m args below meth c D cI cR cL q qm o b (nI (4 * i)) (cells + 4) (slots + 24) Q) :
    W p l e room_1 s m args below meth c H locs cells slots Q (F0 m 1253 ls []) := by
  have hts := F.2.2.2.2.1
  obtain ⟨hx, hb, -, -, -, hfl, -⟩ := id F
  obtain ⟨r, mb, M1, hr, hm, hE, hfin⟩ := (op_undo (K := 4000) (Nat.le_refl 4000) R0 ).ex uS
  have hSx := hS
  refine lv_aload_n hx hb dL_law_1253 rfl (lv_at hl 1 rfl) ?_
  refine lv_aload_n hx hb dL_law_1254 rfl (lv_at hl 3 rfl) ?_
  refine lw_cL F J hS hW [.ref (q 0), .ref o] (kL_undo l hfl D cI cR cL q G 4000  J.1 H.size o v r hr hE) (vx_cwSW 2 hts gL_law_L_undo rfl rfl rfl (by decide +kernel) ⟨Nat.le_of_ble_eq_true rfl, Nat.le_of_ble_eq_true rfl⟩) rfl hl.1 rfl (Nat.le_of_ble_eq_true rfl) dL_law_1255 ⟨by omega, by omega⟩ (fun k G1 v1 H1 locs1 hw hW1 hS1 => ?_)
  clear hSx
  have hSx := hS1
  refine lv_istore (lv' := (5, .int k) :: lwL b (q 0) (qm 0) o (nI (4 * i))) hx hb dL_law_1258 hl (by decide) rfl (fun ls hl => ?_)
  refine lv_aload_n hx hb dL_law_1260 rfl (lv_at hl 3 rfl) ?_
  refine lw_cM F J hS1 hW1 [] (kX4_undo l D cI cR qm M 4000  J.2.1 (mb, M1) hm) (cwV 0 hts gL_law_X4_undo rfl rfl rfl (by decide +kernel) ⟨Nat.le_of_ble_eq_true rfl, Nat.le_of_ble_eq_true rfl⟩) rfl hl.1 rfl (Nat.le_of_ble_eq_true rfl) dL_law_1261 (by omega) (by omega) (fun H2 locs2 hW2 hS2 => ?_)
  refine lv_istore (lv' := (6, .int mb) :: (5, .int k) :: lwL b (q 0) (qm 0) o (nI (4 * i))) hx hb dL_law_1264 hl (by decide) rfl (fun ls hl => ?_)
  obtain ⟨e1, e2, R1⟩ := hfin v k G1 v1 hw
  refine lw_tail F J hS2 hW2 hl e1 e2 dL_law_1266 dL_law_1267 dL_law_1270 dL_law_1272 dL_law_1277 dL_law_1279 dL_law_1282 dL_law_1283 dL_law_1284 dL_law_1285 dL_law_1287 dL_law_1288 dL_law_1289 dL_law_1294 (by decide) (by omega) (by omega) (fun H3 locs3 hW3 hS3 => ?_)
  exact W.widen (by omega) (by omega) (kk _ _ _ _ _ _ R1 hW3 hS3 (lv_sub hl [2, 3, 4, 5, 6] rfl))
set_option maxHeartbeats 4000000 in
set_option maxRecDepth 100000 in
theorem lw_k_digest (F : lwF p l s m c args D cI cR cL b L xs) (J : lwJ q qm o s.heap.size) (hS : va_S (lwA s) s.heap H locs) (hW : lwW D cI cR cL q qm o G M v H) (R0 : Rel G M) {i : Nat} (hi : 4 * i + 4 ≤ L) (hL : L ≤ 2048) (hl : lv_has ls 9 (lwL b (q 0) (qm 0) o (nI (4 * i)))) (hc : cells + 4 ≤ room_1.cells) (hs : slots + 24 ≤ room_1.slots)
    (kk : lwK p l e s m args below meth c D cI cR cL q qm o b (nI (4 * i)) (cells + 4) (slots + 24) Q) :
    W p l e room_1 s m args below meth c H locs cells slots Q (F0 m 1297 ls []) := by
  have hts := F.2.2.2.2.1
  obtain ⟨hx, hb, -, -, -, hfl, -⟩ := id F
  obtain ⟨r, M1, h1, h2, R1⟩ := op_digest (K := 4000) (Nat.le_refl 4000) R0
  refine lv_aload_n hx hb dL_law_1297 rfl (lv_at hl 1 rfl) ?_
  refine lw_cJ hS hW (va_runV (As := []) (rest := []) F.fix (kX3_digest l D cI cR q G 4000 r h1) (cwV 0 hts gL_law_X3_digest rfl rfl rfl (by decide +kernel) ⟨Nat.le_of_ble_eq_true rfl, Nat.le_of_ble_eq_true rfl⟩) (mPreV (mTyL_K F.2.2.2.2.2.2.2.2.1) hW.1 0 rfl rfl) rfl rfl hl.1 rfl (lv_room (Nat.le_of_ble_eq_true rfl)) dL_law_1298 ⟨by omega, by omega⟩) (fun H1 locs1 hW1 hS1 => ?_)
  refine lv_aload_n hx hb dL_law_1301 rfl (lv_at hl 2 rfl) ?_
  refine lw_cMJ F J hS1 hW1 [] (kX4_digest l D cI cR qm M 4000 J.2.1 (r, M1) h2) (cwV 0 hts gL_law_X4_digest rfl rfl rfl (by decide +kernel) ⟨Nat.le_of_ble_eq_true rfl, Nat.le_of_ble_eq_true rfl⟩) rfl hl.1 rfl (Nat.le_of_ble_eq_true rfl) dL_law_1302 (by omega) (by omega) (fun H2 locs2 hW2 hS2 => ?_)
  refine W.lcmp hx hb dL_law_1305 ?_
  refine lv_if_eq (tgt := 1311) hx hb dL_law_1306 (by decide) (fun _ => ?_) (fun h => absurd ((lg_cmp_eq _ _).mpr rfl) h)
  exact W.widen (by omega) (by omega) (kk _ _ _ _ _ _ R1 hW2 hS2 hl)
end LWB
