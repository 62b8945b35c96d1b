/-! ===== the law's cases: two arguments and more ===== -/
set_option maxHeartbeats 4000000 in
set_option maxRecDepth 100000 in
theorem lc_setTreaty {p : Program} {l : Launch} {e : Env} {s : State} {m : MethodId} {below : List Frame} {meth : Method} {c : Code} {H : Heap} {locs : List Loc} {cells slots : Nat} {Q : State → Prop} {b L : Nat} {xs : Nat → Int32} {ls : Array Slot} {G : hv_G} {x o oa : Nat} {md : Nat → Nat} {i : Int32} {p1 p2 p3 : Int32} (hlt : l.stackTraces = false) (S : lw_S p s m meth c b L xs G) (h1 : vp_in (i + 1) L) (e1 : xs (i + 1).toNatClampNeg = p1) (h2 : vp_in (i + 2) L) (e2 : xs (i + 2).toNatClampNeg = p2) (h3 : vp_in (i + 3) L) (e3 : xs (i + 3).toNatClampNeg = p3) (V : lw_I G s x o oa md H locs) (hl : lv_has ls 7 [(0, .ref b), (1, .ref x), (2, .ref o), (3, .ref oa), (4, .int i)]) (hc : cells + 600 ≤ 601024) (hs : slots + 3000 ≤ 7293034) (K : lw_K p l e s m below meth c b G x o oa md i (cells + 600) (slots + 3000) Q) : W p l e room_1 s m #[Value.ref b] below meth c H locs cells slots Q (F0 m 132 ls []) := by
  have C := S.1
  obtain ⟨J, hX, hM, v, th, I, leX, leM, dM, dX, ad, n, d, dy, rf, ar, fm, po, ex, hD, hM2, R⟩ := V
  subst ex
  refine lv_aload_n C.1 C.2.1 dL_law_132 rfl (lv_at hl 1 rfl) ?_
  refine lw_arg S I hl 0 4 rfl rfl (w := 1) (by decide) h1 e1 dL_law_133 dL_law_134 dL_law_136 dL_law_137 dL_law_138 ?_
  refine lw_arg S I hl 0 4 rfl rfl (w := 2) (by decide) h2 e2 dL_law_139 dL_law_140 dL_law_142 dL_law_143 dL_law_144 ?_
  refine lw_arg S I hl 0 4 rfl rfl (w := 3) (by decide) h3 e3 dL_law_145 dL_law_146 dL_law_148 dL_law_149 dL_law_150 ?_
  refine lv_aload_n C.1 C.2.1 dL_law_151 rfl (lv_at hl 3 rfl) ?_
  refine hv_sxi I leX (vx_runSX (As := [.ref (ad 0 0), .int p1, .int p2, .int p3, .ref oa]) (rest := []) C.fix (c_L_setTreaty l hlt G hX _ hD p1 p2 p3  oa v dX) (vx_cwSW 5 C.2.2.2.2.1 gL_law_L_setTreaty rfl rfl rfl (by decide +kernel) ⟨Nat.le_of_ble_eq_true rfl, Nat.le_of_ble_eq_true rfl⟩) (hv_preS C (I.sub leX)) rfl rfl hl.1 rfl (lv_room (Nat.le_of_ble_eq_true rfl)) dL_law_152 ⟨by show _ ≤ 601024; omega, by show _ ≤ 7293034; omega⟩) (fun r u J2 H locs hp hf I => ?_)
  obtain ⟨uX, v2, eu, dX2, Wd⟩ := hp
  subst eu
  obtain ⟨leX2, fr⟩ := hf
  obtain ⟨leM2, dM2⟩ := fr hM leM dM
  refine lv_istore (lv' := [(5, .int r), (0, .ref b), (1, .ref (ad 0 0)), (2, .ref o), (3, .ref oa), (4, .int i)]) C.1 C.2.1 dL_law_155 hl (by decide) rfl (fun ls hl => ?_)
  refine lv_aload_n C.1 C.2.1 dL_law_157 rfl (lv_at hl 3 rfl) ?_
  refine lw_arg S I hl 1 5 rfl rfl (w := 1) (by decide) h1 e1 dL_law_158 dL_law_159 dL_law_161 dL_law_162 dL_law_163 ?_
  refine lw_arg S I hl 1 5 rfl rfl (w := 2) (by decide) h2 e2 dL_law_164 dL_law_165 dL_law_167 dL_law_168 dL_law_169 ?_
  refine lw_arg S I hl 1 5 rfl rfl (w := 3) (by decide) h3 e3 dL_law_170 dL_law_171 dL_law_173 dL_law_174 dL_law_175 ?_
  refine hv_ski I leM2 (va_runV (As := [.int p1, .int p2, .int p3]) (rest := []) C.fix (c_X5_setTreaty l G hM _ hM2 p1 p2 p3 ) (cwV 3 C.2.2.2.2.1 gL_law_X5_setTreaty rfl rfl rfl (by decide +kernel) ⟨Nat.le_of_ble_eq_true rfl, Nat.le_of_ble_eq_true rfl⟩) (hv_preV C (I.sub leM2) hM2.1 (r := (RX5, TX5, 21)) rfl) rfl rfl hl.1 rfl (lv_room (Nat.le_of_ble_eq_true rfl)) dL_law_176 ⟨by show _ ≤ 601024; omega, by show _ ≤ 7293034; omega⟩) (fun bb uM J3 H locs hp2 hf2 I => ?_)
  obtain ⟨leM3, fr2⟩ := hf2
  obtain ⟨leX3, dM3⟩ := fr2 _ leX2 (hv_dis_symm dM2)
  refine lv_istore (lv' := [(6, .int bb), (5, .int r), (0, .ref b), (1, .ref (ad 0 0)), (2, .ref o), (3, .ref oa), (4, .int i)]) C.1 C.2.1 dL_law_179 hl (by decide) rfl (fun ls hl => ?_)
  obtain ⟨LS, ev⟩ := case_setTreaty hD R Wd hp2
  exact lw_tail S I leX3 leM3 (hv_dis_symm dM3) dX2 LS ev hl (by omega) (by omega) hc hs (by decide) dL_law_181 dL_law_182 dL_law_185 dL_law_187 dL_law_192 dL_law_194 dL_law_197 dL_law_198 dL_law_199 dL_law_200 dL_law_202 dL_law_203 dL_law_204 dL_law_209 K
set_option maxHeartbeats 4000000 in
set_option maxRecDepth 100000 in
theorem lc_addHolder {p : Program} {l : Launch} {e : Env} {s : State} {m : MethodId} {below : List Frame} {meth : Method} {c : Code} {H : Heap} {locs : List Loc} {cells slots : Nat} {Q : State → Prop} {b L : Nat} {xs : Nat → Int32} {ls : Array Slot} {G : hv_G} {x o oa : Nat} {md : Nat → Nat} {i : Int32} {p1 p2 : Int32} (hlt : l.stackTraces = false) (S : lw_S p s m meth c b L xs G) (h1 : vp_in (i + 1) L) (e1 : xs (i + 1).toNatClampNeg = p1) (h2 : vp_in (i + 2) L) (e2 : xs (i + 2).toNatClampNeg = p2) (V : lw_I G s x o oa md H locs) (hl : lv_has ls 7 [(0, .ref b), (1, .ref x), (2, .ref o), (3, .ref oa), (4, .int i)]) (hc : cells + 600 ≤ 601024) (hs : slots + 3000 ≤ 7293034) (K : lw_K p l e s m below meth c b G x o oa md i (cells + 600) (slots + 3000) Q) : W p l e room_1 s m #[Value.ref b] below meth c H locs cells slots Q (F0 m 212 ls []) := by
  have C := S.1
  obtain ⟨J, hX, hM, v, th, I, leX, leM, dM, dX, ad, n, d, dy, rf, ar, fm, po, ex, hD, hM2, R⟩ := V
  subst ex
  refine lv_aload_n C.1 C.2.1 dL_law_212 rfl (lv_at hl 1 rfl) ?_
  refine lw_arg S I hl 0 4 rfl rfl (w := 1) (by decide) h1 e1 dL_law_213 dL_law_214 dL_law_216 dL_law_217 dL_law_218 ?_
  refine lw_arg S I hl 0 4 rfl rfl (w := 2) (by decide) h2 e2 dL_law_219 dL_law_220 dL_law_222 dL_law_223 dL_law_224 ?_
  refine lv_aload_n C.1 C.2.1 dL_law_225 rfl (lv_at hl 3 rfl) ?_
  refine hv_sxi I leX (vx_runSX (As := [.ref (ad 0 0), .int p1, .int p2, .ref oa]) (rest := []) C.fix (c_L_addHolder l hlt G hX _ hD p1 p2 R.1.1 (fun hn => Rel_blank R hn) oa v dX) (vx_cwSW 4 C.2.2.2.2.1 gL_law_L_addHolder rfl rfl rfl (by decide +kernel) ⟨Nat.le_of_ble_eq_true rfl, Nat.le_of_ble_eq_true rfl⟩) (hv_preS C (I.sub leX)) rfl rfl hl.1 rfl (lv_room (Nat.le_of_ble_eq_true rfl)) dL_law_226 ⟨by show _ ≤ 601024; omega, by show _ ≤ 7293034; omega⟩) (fun r u J2 H locs hp hf I => ?_)
  obtain ⟨uX, v2, eu, dX2, Wd⟩ := hp
  subst eu
  obtain ⟨leX2, fr⟩ := hf
  obtain ⟨leM2, dM2⟩ := fr hM leM dM
  refine lv_istore (lv' := [(5, .int r), (0, .ref b), (1, .ref (ad 0 0)), (2, .ref o), (3, .ref oa), (4, .int i)]) C.1 C.2.1 dL_law_229 hl (by decide) rfl (fun ls hl => ?_)
  refine lv_aload_n C.1 C.2.1 dL_law_231 rfl (lv_at hl 3 rfl) ?_
  refine lw_arg S I hl 1 5 rfl rfl (w := 1) (by decide) h1 e1 dL_law_232 dL_law_233 dL_law_235 dL_law_236 dL_law_237 ?_
  refine lw_arg S I hl 1 5 rfl rfl (w := 2) (by decide) h2 e2 dL_law_238 dL_law_239 dL_law_241 dL_law_242 dL_law_243 ?_
  refine hv_ski I leM2 (va_runV (As := [.int p1, .int p2]) (rest := []) C.fix (c_X5_addHolder l G hM _ hM2 p1 p2 R.1.1) (cwV 2 C.2.2.2.2.1 gL_law_X5_addHolder rfl rfl rfl (by decide +kernel) ⟨Nat.le_of_ble_eq_true rfl, Nat.le_of_ble_eq_true rfl⟩) (hv_preV C (I.sub leM2) hM2.1 (r := (RX5, TX5, 21)) rfl) rfl rfl hl.1 rfl (lv_room (Nat.le_of_ble_eq_true rfl)) dL_law_244 ⟨by show _ ≤ 601024; omega, by show _ ≤ 7293034; omega⟩) (fun bb uM J3 H locs hp2 hf2 I => ?_)
  obtain ⟨leM3, fr2⟩ := hf2
  obtain ⟨leX3, dM3⟩ := fr2 _ leX2 (hv_dis_symm dM2)
  refine lv_istore (lv' := [(6, .int bb), (5, .int r), (0, .ref b), (1, .ref (ad 0 0)), (2, .ref o), (3, .ref oa), (4, .int i)]) C.1 C.2.1 dL_law_247 hl (by decide) rfl (fun ls hl => ?_)
  obtain ⟨LS, ev⟩ := case_addHolder hD R Wd hp2
  exact lw_tail S I leX3 leM3 (hv_dis_symm dM3) dX2 LS ev hl (by omega) (by omega) hc hs (by decide) dL_law_249 dL_law_250 dL_law_253 dL_law_255 dL_law_260 dL_law_262 dL_law_265 dL_law_266 dL_law_267 dL_law_268 dL_law_270 dL_law_271 dL_law_272 dL_law_277 K
set_option maxHeartbeats 4000000 in
set_option maxRecDepth 100000 in
theorem lc_setParts {p : Program} {l : Launch} {e : Env} {s : State} {m : MethodId} {below : List Frame} {meth : Method} {c : Code} {H : Heap} {locs : List Loc} {cells slots : Nat} {Q : State → Prop} {b L : Nat} {xs : Nat → Int32} {ls : Array Slot} {G : hv_G} {x o oa : Nat} {md : Nat → Nat} {i : Int32} {p1 p2 p3 : Int32} (hlt : l.stackTraces = false) (S : lw_S p s m meth c b L xs G) (h1 : vp_in (i + 1) L) (e1 : xs (i + 1).toNatClampNeg = p1) (h2 : vp_in (i + 2) L) (e2 : xs (i + 2).toNatClampNeg = p2) (h3 : vp_in (i + 3) L) (e3 : xs (i + 3).toNatClampNeg = p3) (V : lw_I G s x o oa md H locs) (hl : lv_has ls 7 [(0, .ref b), (1, .ref x), (2, .ref o), (3, .ref oa), (4, .int i)]) (hc : cells + 600 ≤ 601024) (hs : slots + 3000 ≤ 7293034) (K : lw_K p l e s m below meth c b G x o oa md i (cells + 600) (slots + 3000) Q) : W p l e room_1 s m #[Value.ref b] below meth c H locs cells slots Q (F0 m 280 ls []) := by
  have C := S.1
  obtain ⟨J, hX, hM, v, th, I, leX, leM, dM, dX, ad, n, d, dy, rf, ar, fm, po, ex, hD, hM2, R⟩ := V
  subst ex
  refine lv_aload_n C.1 C.2.1 dL_law_280 rfl (lv_at hl 1 rfl) ?_
  refine lw_arg S I hl 0 4 rfl rfl (w := 1) (by decide) h1 e1 dL_law_281 dL_law_282 dL_law_284 dL_law_285 dL_law_286 ?_
  refine lw_arg S I hl 0 4 rfl rfl (w := 2) (by decide) h2 e2 dL_law_287 dL_law_288 dL_law_290 dL_law_291 dL_law_292 ?_
  refine lw_arg S I hl 0 4 rfl rfl (w := 3) (by decide) h3 e3 dL_law_293 dL_law_294 dL_law_296 dL_law_297 dL_law_298 ?_
  refine lv_aload_n C.1 C.2.1 dL_law_299 rfl (lv_at hl 3 rfl) ?_
  refine hv_sxi I leX (vx_runSX (As := [.ref (ad 0 0), .int p1, .int p2, .int p3, .ref oa]) (rest := []) C.fix (c_L_setParts l hlt G hX _ hD p1 p2 p3 R.1.1 oa v dX) (vx_cwSW 5 C.2.2.2.2.1 gL_law_L_setParts rfl rfl rfl (by decide +kernel) ⟨Nat.le_of_ble_eq_true rfl, Nat.le_of_ble_eq_true rfl⟩) (hv_preS C (I.sub leX)) rfl rfl hl.1 rfl (lv_room (Nat.le_of_ble_eq_true rfl)) dL_law_300 ⟨by show _ ≤ 601024; omega, by show _ ≤ 7293034; omega⟩) (fun r u J2 H locs hp hf I => ?_)
  obtain ⟨uX, v2, eu, dX2, Wd⟩ := hp
  subst eu
  obtain ⟨leX2, fr⟩ := hf
  obtain ⟨leM2, dM2⟩ := fr hM leM dM
  refine lv_istore (lv' := [(5, .int r), (0, .ref b), (1, .ref (ad 0 0)), (2, .ref o), (3, .ref oa), (4, .int i)]) C.1 C.2.1 dL_law_303 hl (by decide) rfl (fun ls hl => ?_)
  refine lv_aload_n C.1 C.2.1 dL_law_305 rfl (lv_at hl 3 rfl) ?_
  refine lw_arg S I hl 1 5 rfl rfl (w := 1) (by decide) h1 e1 dL_law_306 dL_law_307 dL_law_309 dL_law_310 dL_law_311 ?_
  refine lw_arg S I hl 1 5 rfl rfl (w := 2) (by decide) h2 e2 dL_law_312 dL_law_313 dL_law_315 dL_law_316 dL_law_317 ?_
  refine lw_arg S I hl 1 5 rfl rfl (w := 3) (by decide) h3 e3 dL_law_318 dL_law_319 dL_law_321 dL_law_322 dL_law_323 ?_
  refine hv_ski I leM2 (va_runV (As := [.int p1, .int p2, .int p3]) (rest := []) C.fix (c_X5_setParts l G hM _ hM2 p1 p2 p3 R.1.1) (cwV 3 C.2.2.2.2.1 gL_law_X5_setParts rfl rfl rfl (by decide +kernel) ⟨Nat.le_of_ble_eq_true rfl, Nat.le_of_ble_eq_true rfl⟩) (hv_preV C (I.sub leM2) hM2.1 (r := (RX5, TX5, 21)) rfl) rfl rfl hl.1 rfl (lv_room (Nat.le_of_ble_eq_true rfl)) dL_law_324 ⟨by show _ ≤ 601024; omega, by show _ ≤ 7293034; omega⟩) (fun bb uM J3 H locs hp2 hf2 I => ?_)
  obtain ⟨leM3, fr2⟩ := hf2
  obtain ⟨leX3, dM3⟩ := fr2 _ leX2 (hv_dis_symm dM2)
  refine lv_istore (lv' := [(6, .int bb), (5, .int r), (0, .ref b), (1, .ref (ad 0 0)), (2, .ref o), (3, .ref oa), (4, .int i)]) C.1 C.2.1 dL_law_327 hl (by decide) rfl (fun ls hl => ?_)
  obtain ⟨LS, ev⟩ := case_setParts hD R Wd hp2
  exact lw_tail S I leX3 leM3 (hv_dis_symm dM3) dX2 LS ev hl (by omega) (by omega) hc hs (by decide) dL_law_329 dL_law_330 dL_law_333 dL_law_335 dL_law_340 dL_law_342 dL_law_345 dL_law_346 dL_law_347 dL_law_348 dL_law_350 dL_law_351 dL_law_352 dL_law_357 K
set_option maxHeartbeats 4000000 in
set_option maxRecDepth 100000 in
theorem lc_setShares {p : Program} {l : Launch} {e : Env} {s : State} {m : MethodId} {below : List Frame} {meth : Method} {c : Code} {H : Heap} {locs : List Loc} {cells slots : Nat} {Q : State → Prop} {b L : Nat} {xs : Nat → Int32} {ls : Array Slot} {G : hv_G} {x o oa : Nat} {md : Nat → Nat} {i : Int32} {p1 p2 : Int32} (hlt : l.stackTraces = false) (S : lw_S p s m meth c b L xs G) (h1 : vp_in (i + 1) L) (e1 : xs (i + 1).toNatClampNeg = p1) (h2 : vp_in (i + 2) L) (e2 : xs (i + 2).toNatClampNeg = p2) (V : lw_I G s x o oa md H locs) (hl : lv_has ls 7 [(0, .ref b), (1, .ref x), (2, .ref o), (3, .ref oa), (4, .int i)]) (hc : cells + 600 ≤ 601024) (hs : slots + 3000 ≤ 7293034) (K : lw_K p l e s m below meth c b G x o oa md i (cells + 600) (slots + 3000) Q) : W p l e room_1 s m #[Value.ref b] below meth c H locs cells slots Q (F0 m 360 ls []) := by
  have C := S.1
  obtain ⟨J, hX, hM, v, th, I, leX, leM, dM, dX, ad, n, d, dy, rf, ar, fm, po, ex, hD, hM2, R⟩ := V
  subst ex
  refine lv_aload_n C.1 C.2.1 dL_law_360 rfl (lv_at hl 1 rfl) ?_
  refine lw_arg S I hl 0 4 rfl rfl (w := 1) (by decide) h1 e1 dL_law_361 dL_law_362 dL_law_364 dL_law_365 dL_law_366 ?_
  refine lw_arg S I hl 0 4 rfl rfl (w := 2) (by decide) h2 e2 dL_law_367 dL_law_368 dL_law_370 dL_law_371 dL_law_372 ?_
  refine lv_aload_n C.1 C.2.1 dL_law_373 rfl (lv_at hl 3 rfl) ?_
  refine hv_sxi I leX (vx_runSX (As := [.ref (ad 0 0), .int p1, .int p2, .ref oa]) (rest := []) C.fix (c_L_setShares l hlt G hX _ hD p1 p2 R.1.1 oa v dX) (vx_cwSW 4 C.2.2.2.2.1 gL_law_L_setShares rfl rfl rfl (by decide +kernel) ⟨Nat.le_of_ble_eq_true rfl, Nat.le_of_ble_eq_true rfl⟩) (hv_preS C (I.sub leX)) rfl rfl hl.1 rfl (lv_room (Nat.le_of_ble_eq_true rfl)) dL_law_374 ⟨by show _ ≤ 601024; omega, by show _ ≤ 7293034; omega⟩) (fun r u J2 H locs hp hf I => ?_)
  obtain ⟨uX, v2, eu, dX2, Wd⟩ := hp
  subst eu
  obtain ⟨leX2, fr⟩ := hf
  obtain ⟨leM2, dM2⟩ := fr hM leM dM
  refine lv_istore (lv' := [(5, .int r), (0, .ref b), (1, .ref (ad 0 0)), (2, .ref o), (3, .ref oa), (4, .int i)]) C.1 C.2.1 dL_law_377 hl (by decide) rfl (fun ls hl => ?_)
  refine lv_aload_n C.1 C.2.1 dL_law_379 rfl (lv_at hl 3 rfl) ?_
  refine lw_arg S I hl 1 5 rfl rfl (w := 1) (by decide) h1 e1 dL_law_380 dL_law_381 dL_law_383 dL_law_384 dL_law_385 ?_
  refine lw_arg S I hl 1 5 rfl rfl (w := 2) (by decide) h2 e2 dL_law_386 dL_law_387 dL_law_389 dL_law_390 dL_law_391 ?_
  refine hv_ski I leM2 (va_runV (As := [.int p1, .int p2]) (rest := []) C.fix (c_X5_setShares l G hM _ hM2 p1 p2 R.1.1) (cwV 2 C.2.2.2.2.1 gL_law_X5_setShares rfl rfl rfl (by decide +kernel) ⟨Nat.le_of_ble_eq_true rfl, Nat.le_of_ble_eq_true rfl⟩) (hv_preV C (I.sub leM2) hM2.1 (r := (RX5, TX5, 21)) rfl) rfl rfl hl.1 rfl (lv_room (Nat.le_of_ble_eq_true rfl)) dL_law_392 ⟨by show _ ≤ 601024; omega, by show _ ≤ 7293034; omega⟩) (fun bb uM J3 H locs hp2 hf2 I => ?_)
  obtain ⟨leM3, fr2⟩ := hf2
  obtain ⟨leX3, dM3⟩ := fr2 _ leX2 (hv_dis_symm dM2)
  refine lv_istore (lv' := [(6, .int bb), (5, .int r), (0, .ref b), (1, .ref (ad 0 0)), (2, .ref o), (3, .ref oa), (4, .int i)]) C.1 C.2.1 dL_law_395 hl (by decide) rfl (fun ls hl => ?_)
  obtain ⟨LS, ev⟩ := case_setShares hD R Wd hp2
  exact lw_tail S I leX3 leM3 (hv_dis_symm dM3) dX2 LS ev hl (by omega) (by omega) hc hs (by decide) dL_law_397 dL_law_398 dL_law_401 dL_law_403 dL_law_408 dL_law_410 dL_law_413 dL_law_414 dL_law_415 dL_law_416 dL_law_418 dL_law_419 dL_law_420 dL_law_425 K
set_option maxHeartbeats 4000000 in
set_option maxRecDepth 100000 in
theorem lc_gross {p : Program} {l : Launch} {e : Env} {s : State} {m : MethodId} {below : List Frame} {meth : Method} {c : Code} {H : Heap} {locs : List Loc} {cells slots : Nat} {Q : State → Prop} {b L : Nat} {xs : Nat → Int32} {ls : Array Slot} {G : hv_G} {x o oa : Nat} {md : Nat → Nat} {i : Int32} {p1 p2 : Int32} (hlt : l.stackTraces = false) (S : lw_S p s m meth c b L xs G) (h1 : vp_in (i + 1) L) (e1 : xs (i + 1).toNatClampNeg = p1) (h2 : vp_in (i + 2) L) (e2 : xs (i + 2).toNatClampNeg = p2) (V : lw_I G s x o oa md H locs) (hl : lv_has ls 7 [(0, .ref b), (1, .ref x), (2, .ref o), (3, .ref oa), (4, .int i)]) (hc : cells + 600 ≤ 601024) (hs : slots + 3000 ≤ 7293034) (K : lw_K p l e s m below meth c b G x o oa md i (cells + 600) (slots + 3000) Q) : W p l e room_1 s m #[Value.ref b] below meth c H locs cells slots Q (F0 m 860 ls []) := by
  have C := S.1
  obtain ⟨J, hX, hM, v, th, I, leX, leM, dM, dX, ad, n, d, dy, rf, ar, fm, po, ex, hD, hM2, R⟩ := V
  subst ex
  refine lv_aload_n C.1 C.2.1 dL_law_860 rfl (lv_at hl 1 rfl) ?_
  refine lw_arg S I hl 0 4 rfl rfl (w := 1) (by decide) h1 e1 dL_law_861 dL_law_862 dL_law_864 dL_law_865 dL_law_866 ?_
  refine lw_arg S I hl 0 4 rfl rfl (w := 2) (by decide) h2 e2 dL_law_867 dL_law_868 dL_law_870 dL_law_871 dL_law_872 ?_
  refine lv_aload_n C.1 C.2.1 dL_law_873 rfl (lv_at hl 3 rfl) ?_
  refine hv_sxi I leX (vx_runSX (As := [.ref (ad 0 0), .int p1, .int p2, .ref oa]) (rest := []) C.fix (c_L_gross l hlt G hX _ hD p1 p2 R.1.1 (Nat.le_refl d) R.1.2.1 (fun m _ => R.2.2.2.2.1 m) oa v dX) (vx_cwSW 4 C.2.2.2.2.1 gL_law_L_gross rfl rfl rfl (by decide +kernel) ⟨Nat.le_of_ble_eq_true rfl, Nat.le_of_ble_eq_true rfl⟩) (hv_preS C (I.sub leX)) rfl rfl hl.1 rfl (lv_room (Nat.le_of_ble_eq_true rfl)) dL_law_874 ⟨by show _ ≤ 601024; omega, by show _ ≤ 7293034; omega⟩) (fun r u J2 H locs hp hf I => ?_)
  obtain ⟨uX, v2, eu, dX2, Wd⟩ := hp
  subst eu
  obtain ⟨leX2, fr⟩ := hf
  obtain ⟨leM2, dM2⟩ := fr hM leM dM
  refine lv_istore (lv' := [(5, .int r), (0, .ref b), (1, .ref (ad 0 0)), (2, .ref o), (3, .ref oa), (4, .int i)]) C.1 C.2.1 dL_law_877 hl (by decide) rfl (fun ls hl => ?_)
  refine lv_aload_n C.1 C.2.1 dL_law_879 rfl (lv_at hl 3 rfl) ?_
  refine lw_arg S I hl 1 5 rfl rfl (w := 1) (by decide) h1 e1 dL_law_880 dL_law_881 dL_law_883 dL_law_884 dL_law_885 ?_
  refine lw_arg S I hl 1 5 rfl rfl (w := 2) (by decide) h2 e2 dL_law_886 dL_law_887 dL_law_889 dL_law_890 dL_law_891 ?_
  refine hv_ski I leM2 (va_runV (As := [.int p1, .int p2]) (rest := []) C.fix (c_X5_gross l G hM _ hM2 p1 p2 R.1.1 R.1.2.1) (cwV 2 C.2.2.2.2.1 gL_law_X5_gross rfl rfl rfl (by decide +kernel) ⟨Nat.le_of_ble_eq_true rfl, Nat.le_of_ble_eq_true rfl⟩) (hv_preV C (I.sub leM2) hM2.1 (r := (RX5, TX5, 21)) rfl) rfl rfl hl.1 rfl (lv_room (Nat.le_of_ble_eq_true rfl)) dL_law_892 ⟨by show _ ≤ 601024; omega, by show _ ≤ 7293034; omega⟩) (fun bb uM J3 H locs hp2 hf2 I => ?_)
  obtain ⟨leM3, fr2⟩ := hf2
  obtain ⟨leX3, dM3⟩ := fr2 _ leX2 (hv_dis_symm dM2)
  refine lv_istore (lv' := [(6, .int bb), (5, .int r), (0, .ref b), (1, .ref (ad 0 0)), (2, .ref o), (3, .ref oa), (4, .int i)]) C.1 C.2.1 dL_law_895 hl (by decide) rfl (fun ls hl => ?_)
  obtain ⟨LS, ev⟩ := case_gross hD R Wd hp2
  exact lw_tail S I leX3 leM3 (hv_dis_symm dM3) dX2 LS ev hl (by omega) (by omega) hc hs (by decide) dL_law_897 dL_law_898 dL_law_901 dL_law_903 dL_law_908 dL_law_910 dL_law_913 dL_law_914 dL_law_915 dL_law_916 dL_law_918 dL_law_919 dL_law_920 dL_law_925 K
set_option maxHeartbeats 4000000 in
set_option maxRecDepth 100000 in
theorem lc_held {p : Program} {l : Launch} {e : Env} {s : State} {m : MethodId} {below : List Frame} {meth : Method} {c : Code} {H : Heap} {locs : List Loc} {cells slots : Nat} {Q : State → Prop} {b L : Nat} {xs : Nat → Int32} {ls : Array Slot} {G : hv_G} {x o oa : Nat} {md : Nat → Nat} {i : Int32} {p1 p2 : Int32} (hlt : l.stackTraces = false) (S : lw_S p s m meth c b L xs G) (h1 : vp_in (i + 1) L) (e1 : xs (i + 1).toNatClampNeg = p1) (h2 : vp_in (i + 2) L) (e2 : xs (i + 2).toNatClampNeg = p2) (V : lw_I G s x o oa md H locs) (hl : lv_has ls 7 [(0, .ref b), (1, .ref x), (2, .ref o), (3, .ref oa), (4, .int i)]) (hc : cells + 600 ≤ 601024) (hs : slots + 3000 ≤ 7293034) (K : lw_K p l e s m below meth c b G x o oa md i (cells + 600) (slots + 3000) Q) : W p l e room_1 s m #[Value.ref b] below meth c H locs cells slots Q (F0 m 928 ls []) := by
  have C := S.1
  obtain ⟨J, hX, hM, v, th, I, leX, leM, dM, dX, ad, n, d, dy, rf, ar, fm, po, ex, hD, hM2, R⟩ := V
  subst ex
  refine lv_aload_n C.1 C.2.1 dL_law_928 rfl (lv_at hl 1 rfl) ?_
  refine lw_arg S I hl 0 4 rfl rfl (w := 1) (by decide) h1 e1 dL_law_929 dL_law_930 dL_law_932 dL_law_933 dL_law_934 ?_
  refine lw_arg S I hl 0 4 rfl rfl (w := 2) (by decide) h2 e2 dL_law_935 dL_law_936 dL_law_938 dL_law_939 dL_law_940 ?_
  refine lv_aload_n C.1 C.2.1 dL_law_941 rfl (lv_at hl 3 rfl) ?_
  refine hv_sxi I leX (vx_runSX (As := [.ref (ad 0 0), .int p1, .int p2, .ref oa]) (rest := []) C.fix (c_L_held l hlt G hX _ hD p1 p2 R.1.1 (Nat.le_refl d) R.1.2.1 (fun m _ => R.2.2.2.2.1 m) oa v dX) (vx_cwSW 4 C.2.2.2.2.1 gL_law_L_held rfl rfl rfl (by decide +kernel) ⟨Nat.le_of_ble_eq_true rfl, Nat.le_of_ble_eq_true rfl⟩) (hv_preS C (I.sub leX)) rfl rfl hl.1 rfl (lv_room (Nat.le_of_ble_eq_true rfl)) dL_law_942 ⟨by show _ ≤ 601024; omega, by show _ ≤ 7293034; omega⟩) (fun r u J2 H locs hp hf I => ?_)
  obtain ⟨uX, v2, eu, dX2, Wd⟩ := hp
  subst eu
  obtain ⟨leX2, fr⟩ := hf
  obtain ⟨leM2, dM2⟩ := fr hM leM dM
  refine lv_istore (lv' := [(5, .int r), (0, .ref b), (1, .ref (ad 0 0)), (2, .ref o), (3, .ref oa), (4, .int i)]) C.1 C.2.1 dL_law_945 hl (by decide) rfl (fun ls hl => ?_)
  refine lv_aload_n C.1 C.2.1 dL_law_947 rfl (lv_at hl 3 rfl) ?_
  refine lw_arg S I hl 1 5 rfl rfl (w := 1) (by decide) h1 e1 dL_law_948 dL_law_949 dL_law_951 dL_law_952 dL_law_953 ?_
  refine lw_arg S I hl 1 5 rfl rfl (w := 2) (by decide) h2 e2 dL_law_954 dL_law_955 dL_law_957 dL_law_958 dL_law_959 ?_
  refine hv_ski I leM2 (va_runV (As := [.int p1, .int p2]) (rest := []) C.fix (c_X5_held l G hM _ hM2 p1 p2 R.1.1 R.1.2.1) (cwV 2 C.2.2.2.2.1 gL_law_X5_held rfl rfl rfl (by decide +kernel) ⟨Nat.le_of_ble_eq_true rfl, Nat.le_of_ble_eq_true rfl⟩) (hv_preV C (I.sub leM2) hM2.1 (r := (RX5, TX5, 21)) rfl) rfl rfl hl.1 rfl (lv_room (Nat.le_of_ble_eq_true rfl)) dL_law_960 ⟨by show _ ≤ 601024; omega, by show _ ≤ 7293034; omega⟩) (fun bb uM J3 H locs hp2 hf2 I => ?_)
  obtain ⟨leM3, fr2⟩ := hf2
  obtain ⟨leX3, dM3⟩ := fr2 _ leX2 (hv_dis_symm dM2)
  refine lv_istore (lv' := [(6, .int bb), (5, .int r), (0, .ref b), (1, .ref (ad 0 0)), (2, .ref o), (3, .ref oa), (4, .int i)]) C.1 C.2.1 dL_law_963 hl (by decide) rfl (fun ls hl => ?_)
  obtain ⟨LS, ev⟩ := case_held hD R Wd hp2
  exact lw_tail S I leX3 leM3 (hv_dis_symm dM3) dX2 LS ev hl (by omega) (by omega) hc hs (by decide) dL_law_965 dL_law_966 dL_law_969 dL_law_971 dL_law_976 dL_law_978 dL_law_981 dL_law_982 dL_law_983 dL_law_984 dL_law_986 dL_law_987 dL_law_988 dL_law_993 K
set_option maxHeartbeats 4000000 in
set_option maxRecDepth 100000 in
theorem lc_due {p : Program} {l : Launch} {e : Env} {s : State} {m : MethodId} {below : List Frame} {meth : Method} {c : Code} {H : Heap} {locs : List Loc} {cells slots : Nat} {Q : State → Prop} {b L : Nat} {xs : Nat → Int32} {ls : Array Slot} {G : hv_G} {x o oa : Nat} {md : Nat → Nat} {i : Int32} {p1 p2 : Int32} (hlt : l.stackTraces = false) (S : lw_S p s m meth c b L xs G) (h1 : vp_in (i + 1) L) (e1 : xs (i + 1).toNatClampNeg = p1) (h2 : vp_in (i + 2) L) (e2 : xs (i + 2).toNatClampNeg = p2) (V : lw_I G s x o oa md H locs) (hl : lv_has ls 7 [(0, .ref b), (1, .ref x), (2, .ref o), (3, .ref oa), (4, .int i)]) (hc : cells + 600 ≤ 601024) (hs : slots + 3000 ≤ 7293034) (K : lw_K p l e s m below meth c b G x o oa md i (cells + 600) (slots + 3000) Q) : W p l e room_1 s m #[Value.ref b] below meth c H locs cells slots Q (F0 m 996 ls []) := by
  have C := S.1
  obtain ⟨J, hX, hM, v, th, I, leX, leM, dM, dX, ad, n, d, dy, rf, ar, fm, po, ex, hD, hM2, R⟩ := V
  subst ex
  refine lv_aload_n C.1 C.2.1 dL_law_996 rfl (lv_at hl 1 rfl) ?_
  refine lw_arg S I hl 0 4 rfl rfl (w := 1) (by decide) h1 e1 dL_law_997 dL_law_998 dL_law_1000 dL_law_1001 dL_law_1002 ?_
  refine lw_arg S I hl 0 4 rfl rfl (w := 2) (by decide) h2 e2 dL_law_1003 dL_law_1004 dL_law_1006 dL_law_1007 dL_law_1008 ?_
  refine lv_aload_n C.1 C.2.1 dL_law_1009 rfl (lv_at hl 3 rfl) ?_
  refine hv_sxi I leX (vx_runSX (As := [.ref (ad 0 0), .int p1, .int p2, .ref oa]) (rest := []) C.fix (c_L_due l hlt G hX _ hD p1 p2 R.1.1 (Nat.le_refl d) R.1.2.1 (fun m _ => R.2.2.2.2.1 m) oa v dX) (vx_cwSW 4 C.2.2.2.2.1 gL_law_L_due rfl rfl rfl (by decide +kernel) ⟨Nat.le_of_ble_eq_true rfl, Nat.le_of_ble_eq_true rfl⟩) (hv_preS C (I.sub leX)) rfl rfl hl.1 rfl (lv_room (Nat.le_of_ble_eq_true rfl)) dL_law_1010 ⟨by show _ ≤ 601024; omega, by show _ ≤ 7293034; omega⟩) (fun r u J2 H locs hp hf I => ?_)
  obtain ⟨uX, v2, eu, dX2, Wd⟩ := hp
  subst eu
  obtain ⟨leX2, fr⟩ := hf
  obtain ⟨leM2, dM2⟩ := fr hM leM dM
  refine lv_istore (lv' := [(5, .int r), (0, .ref b), (1, .ref (ad 0 0)), (2, .ref o), (3, .ref oa), (4, .int i)]) C.1 C.2.1 dL_law_1013 hl (by decide) rfl (fun ls hl => ?_)
  refine lv_aload_n C.1 C.2.1 dL_law_1015 rfl (lv_at hl 3 rfl) ?_
  refine lw_arg S I hl 1 5 rfl rfl (w := 1) (by decide) h1 e1 dL_law_1016 dL_law_1017 dL_law_1019 dL_law_1020 dL_law_1021 ?_
  refine lw_arg S I hl 1 5 rfl rfl (w := 2) (by decide) h2 e2 dL_law_1022 dL_law_1023 dL_law_1025 dL_law_1026 dL_law_1027 ?_
  refine hv_ski I leM2 (va_runV (As := [.int p1, .int p2]) (rest := []) C.fix (c_X5_due l G hM _ hM2 p1 p2 R.1.1 R.1.2.1) (cwV 2 C.2.2.2.2.1 gL_law_X5_due rfl rfl rfl (by decide +kernel) ⟨Nat.le_of_ble_eq_true rfl, Nat.le_of_ble_eq_true rfl⟩) (hv_preV C (I.sub leM2) hM2.1 (r := (RX5, TX5, 21)) rfl) rfl rfl hl.1 rfl (lv_room (Nat.le_of_ble_eq_true rfl)) dL_law_1028 ⟨by show _ ≤ 601024; omega, by show _ ≤ 7293034; omega⟩) (fun bb uM J3 H locs hp2 hf2 I => ?_)
  obtain ⟨leM3, fr2⟩ := hf2
  obtain ⟨leX3, dM3⟩ := fr2 _ leX2 (hv_dis_symm dM2)
  refine lv_istore (lv' := [(6, .int bb), (5, .int r), (0, .ref b), (1, .ref (ad 0 0)), (2, .ref o), (3, .ref oa), (4, .int i)]) C.1 C.2.1 dL_law_1031 hl (by decide) rfl (fun ls hl => ?_)
  obtain ⟨LS, ev⟩ := case_due hD R Wd hp2
  exact lw_tail S I leX3 leM3 (hv_dis_symm dM3) dX2 LS ev hl (by omega) (by omega) hc hs (by decide) dL_law_1033 dL_law_1034 dL_law_1037 dL_law_1039 dL_law_1044 dL_law_1046 dL_law_1049 dL_law_1050 dL_law_1051 dL_law_1052 dL_law_1054 dL_law_1055 dL_law_1056 dL_law_1061 K
set_option maxHeartbeats 4000000 in
set_option maxRecDepth 100000 in
theorem lc_refund {p : Program} {l : Launch} {e : Env} {s : State} {m : MethodId} {below : List Frame} {meth : Method} {c : Code} {H : Heap} {locs : List Loc} {cells slots : Nat} {Q : State → Prop} {b L : Nat} {xs : Nat → Int32} {ls : Array Slot} {G : hv_G} {x o oa : Nat} {md : Nat → Nat} {i : Int32} {p1 p2 : Int32} (hlt : l.stackTraces = false) (S : lw_S p s m meth c b L xs G) (h1 : vp_in (i + 1) L) (e1 : xs (i + 1).toNatClampNeg = p1) (h2 : vp_in (i + 2) L) (e2 : xs (i + 2).toNatClampNeg = p2) (V : lw_I G s x o oa md H locs) (hl : lv_has ls 7 [(0, .ref b), (1, .ref x), (2, .ref o), (3, .ref oa), (4, .int i)]) (hc : cells + 600 ≤ 601024) (hs : slots + 3000 ≤ 7293034) (K : lw_K p l e s m below meth c b G x o oa md i (cells + 600) (slots + 3000) Q) : W p l e room_1 s m #[Value.ref b] below meth c H locs cells slots Q (F0 m 1092 ls []) := by
  have C := S.1
  obtain ⟨J, hX, hM, v, th, I, leX, leM, dM, dX, ad, n, d, dy, rf, ar, fm, po, ex, hD, hM2, R⟩ := V
  subst ex
  refine lv_aload_n C.1 C.2.1 dL_law_1092 rfl (lv_at hl 1 rfl) ?_
  refine lw_arg S I hl 0 4 rfl rfl (w := 1) (by decide) h1 e1 dL_law_1093 dL_law_1094 dL_law_1096 dL_law_1097 dL_law_1098 ?_
  refine lw_arg S I hl 0 4 rfl rfl (w := 2) (by decide) h2 e2 dL_law_1099 dL_law_1100 dL_law_1102 dL_law_1103 dL_law_1104 ?_
  refine lv_aload_n C.1 C.2.1 dL_law_1105 rfl (lv_at hl 3 rfl) ?_
  refine hv_sxi I leX (vx_runSX (As := [.ref (ad 0 0), .int p1, .int p2, .ref oa]) (rest := []) C.fix (c_L_refund l hlt G hX _ hD p1 p2 R.1.1 (Nat.le_refl d) R.1.2.1 (fun m _ => R.2.2.2.2.1 m) oa v dX) (vx_cwSW 4 C.2.2.2.2.1 gL_law_L_refund rfl rfl rfl (by decide +kernel) ⟨Nat.le_of_ble_eq_true rfl, Nat.le_of_ble_eq_true rfl⟩) (hv_preS C (I.sub leX)) rfl rfl hl.1 rfl (lv_room (Nat.le_of_ble_eq_true rfl)) dL_law_1106 ⟨by show _ ≤ 601024; omega, by show _ ≤ 7293034; omega⟩) (fun r u J2 H locs hp hf I => ?_)
  obtain ⟨uX, v2, eu, dX2, Wd⟩ := hp
  subst eu
  obtain ⟨leX2, fr⟩ := hf
  obtain ⟨leM2, dM2⟩ := fr hM leM dM
  refine lv_istore (lv' := [(5, .int r), (0, .ref b), (1, .ref (ad 0 0)), (2, .ref o), (3, .ref oa), (4, .int i)]) C.1 C.2.1 dL_law_1109 hl (by decide) rfl (fun ls hl => ?_)
  refine lv_aload_n C.1 C.2.1 dL_law_1111 rfl (lv_at hl 3 rfl) ?_
  refine lw_arg S I hl 1 5 rfl rfl (w := 1) (by decide) h1 e1 dL_law_1112 dL_law_1113 dL_law_1115 dL_law_1116 dL_law_1117 ?_
  refine lw_arg S I hl 1 5 rfl rfl (w := 2) (by decide) h2 e2 dL_law_1118 dL_law_1119 dL_law_1121 dL_law_1122 dL_law_1123 ?_
  refine hv_ski I leM2 (va_runV (As := [.int p1, .int p2]) (rest := []) C.fix (c_X5_refund l G hM _ hM2 p1 p2 R.1.1 R.1.2.1) (cwV 2 C.2.2.2.2.1 gL_law_X5_refund rfl rfl rfl (by decide +kernel) ⟨Nat.le_of_ble_eq_true rfl, Nat.le_of_ble_eq_true rfl⟩) (hv_preV C (I.sub leM2) hM2.1 (r := (RX5, TX5, 21)) rfl) rfl rfl hl.1 rfl (lv_room (Nat.le_of_ble_eq_true rfl)) dL_law_1124 ⟨by show _ ≤ 601024; omega, by show _ ≤ 7293034; omega⟩) (fun bb uM J3 H locs hp2 hf2 I => ?_)
  obtain ⟨leM3, fr2⟩ := hf2
  obtain ⟨leX3, dM3⟩ := fr2 _ leX2 (hv_dis_symm dM2)
  refine lv_istore (lv' := [(6, .int bb), (5, .int r), (0, .ref b), (1, .ref (ad 0 0)), (2, .ref o), (3, .ref oa), (4, .int i)]) C.1 C.2.1 dL_law_1127 hl (by decide) rfl (fun ls hl => ?_)
  obtain ⟨LS, ev⟩ := case_refund hD R Wd hp2
  exact lw_tail S I leX3 leM3 (hv_dis_symm dM3) dX2 LS ev hl (by omega) (by omega) hc hs (by decide) dL_law_1129 dL_law_1130 dL_law_1133 dL_law_1135 dL_law_1140 dL_law_1142 dL_law_1145 dL_law_1146 dL_law_1147 dL_law_1148 dL_law_1150 dL_law_1151 dL_law_1152 dL_law_1157 K
set_option maxHeartbeats 4000000 in
set_option maxRecDepth 100000 in
theorem lc_claim {p : Program} {l : Launch} {e : Env} {s : State} {m : MethodId} {below : List Frame} {meth : Method} {c : Code} {H : Heap} {locs : List Loc} {cells slots : Nat} {Q : State → Prop} {b L : Nat} {xs : Nat → Int32} {ls : Array Slot} {G : hv_G} {x o oa : Nat} {md : Nat → Nat} {i : Int32} {p1 p2 : Int32} (hlt : l.stackTraces = false) (S : lw_S p s m meth c b L xs G) (h1 : vp_in (i + 1) L) (e1 : xs (i + 1).toNatClampNeg = p1) (h2 : vp_in (i + 2) L) (e2 : xs (i + 2).toNatClampNeg = p2) (V : lw_I G s x o oa md H locs) (hl : lv_has ls 7 [(0, .ref b), (1, .ref x), (2, .ref o), (3, .ref oa), (4, .int i)]) (hc : cells + 600 ≤ 601024) (hs : slots + 3000 ≤ 7293034) (K : lw_K p l e s m below meth c b G x o oa md i (cells + 600) (slots + 3000) Q) : W p l e room_1 s m #[Value.ref b] below meth c H locs cells slots Q (F0 m 1160 ls []) := by
  have C := S.1
  obtain ⟨J, hX, hM, v, th, I, leX, leM, dM, dX, ad, n, d, dy, rf, ar, fm, po, ex, hD, hM2, R⟩ := V
  subst ex
  refine lv_aload_n C.1 C.2.1 dL_law_1160 rfl (lv_at hl 1 rfl) ?_
  refine lw_arg S I hl 0 4 rfl rfl (w := 1) (by decide) h1 e1 dL_law_1161 dL_law_1162 dL_law_1164 dL_law_1165 dL_law_1166 ?_
  refine lw_arg S I hl 0 4 rfl rfl (w := 2) (by decide) h2 e2 dL_law_1167 dL_law_1168 dL_law_1170 dL_law_1171 dL_law_1172 ?_
  refine lv_aload_n C.1 C.2.1 dL_law_1173 rfl (lv_at hl 3 rfl) ?_
  refine hv_sxi I leX (vx_runSX (As := [.ref (ad 0 0), .int p1, .int p2, .ref oa]) (rest := []) C.fix (c_L_claim l hlt G hX _ hD p1 p2 R.1.1 (Nat.le_refl d) R.1.2.1 (fun m _ => R.2.2.2.2.1 m) oa v dX) (vx_cwSW 4 C.2.2.2.2.1 gL_law_L_claim rfl rfl rfl (by decide +kernel) ⟨Nat.le_of_ble_eq_true rfl, Nat.le_of_ble_eq_true rfl⟩) (hv_preS C (I.sub leX)) rfl rfl hl.1 rfl (lv_room (Nat.le_of_ble_eq_true rfl)) dL_law_1174 ⟨by show _ ≤ 601024; omega, by show _ ≤ 7293034; omega⟩) (fun r u J2 H locs hp hf I => ?_)
  obtain ⟨uX, v2, eu, dX2, Wd⟩ := hp
  subst eu
  obtain ⟨leX2, fr⟩ := hf
  obtain ⟨leM2, dM2⟩ := fr hM leM dM
  refine lv_istore (lv' := [(5, .int r), (0, .ref b), (1, .ref (ad 0 0)), (2, .ref o), (3, .ref oa), (4, .int i)]) C.1 C.2.1 dL_law_1177 hl (by decide) rfl (fun ls hl => ?_)
  refine lv_aload_n C.1 C.2.1 dL_law_1179 rfl (lv_at hl 3 rfl) ?_
  refine lw_arg S I hl 1 5 rfl rfl (w := 1) (by decide) h1 e1 dL_law_1180 dL_law_1181 dL_law_1183 dL_law_1184 dL_law_1185 ?_
  refine lw_arg S I hl 1 5 rfl rfl (w := 2) (by decide) h2 e2 dL_law_1186 dL_law_1187 dL_law_1189 dL_law_1190 dL_law_1191 ?_
  refine hv_ski I leM2 (va_runV (As := [.int p1, .int p2]) (rest := []) C.fix (c_X5_claim l G hM _ hM2 p1 p2 R.1.1 R.1.2.1) (cwV 2 C.2.2.2.2.1 gL_law_X5_claim rfl rfl rfl (by decide +kernel) ⟨Nat.le_of_ble_eq_true rfl, Nat.le_of_ble_eq_true rfl⟩) (hv_preV C (I.sub leM2) hM2.1 (r := (RX5, TX5, 21)) rfl) rfl rfl hl.1 rfl (lv_room (Nat.le_of_ble_eq_true rfl)) dL_law_1192 ⟨by show _ ≤ 601024; omega, by show _ ≤ 7293034; omega⟩) (fun bb uM J3 H locs hp2 hf2 I => ?_)
  obtain ⟨leM3, fr2⟩ := hf2
  obtain ⟨leX3, dM3⟩ := fr2 _ leX2 (hv_dis_symm dM2)
  refine lv_istore (lv' := [(6, .int bb), (5, .int r), (0, .ref b), (1, .ref (ad 0 0)), (2, .ref o), (3, .ref oa), (4, .int i)]) C.1 C.2.1 dL_law_1195 hl (by decide) rfl (fun ls hl => ?_)
  obtain ⟨LS, ev⟩ := case_claim hD R Wd hp2
  exact lw_tail S I leX3 leM3 (hv_dis_symm dM3) dX2 LS ev hl (by omega) (by omega) hc hs (by decide) dL_law_1197 dL_law_1198 dL_law_1201 dL_law_1203 dL_law_1208 dL_law_1210 dL_law_1213 dL_law_1214 dL_law_1215 dL_law_1216 dL_law_1218 dL_law_1219 dL_law_1220 dL_law_1225 K
