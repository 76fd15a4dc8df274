/-! the law: its cases 0 to 13 -/
section LC
variable {p : Program} {l : Launch} {e : Env} {s : State} {m : MethodId} {below : List Frame} {meth : Method} {c : Code} {D : va_G} {G : sG} {Q : State → Prop} {b Ls i n : Nat} {xs : Nat → Int32} {M : sM} {L : sL}
set_option maxHeartbeats 4000000 in
theorem q_0 (X : lX p s m b c D G Ls xs) (hi : i + 5 ≤ Ls) (h : Inv M L n) (hn : n + 1 ≤ 64) (K : ∀ M2 L2, Inv M2 L2 (n + 1) → lA p l e s m b below meth c D G Q 1230 i [] M2 L2) : lA p l e s m b below meth c D G Q 208 i [] M L := by
  obtain ⟨C, hX, hbl, hbA, hLs⟩ := X
  refine at_aload_n C 2 dL_law_208 rfl ?_
  refine at_call_i C (c_X6_shore l D G h.2.1 (i_ct h)) (As := []) (obj_Sho G) (ci := 6) rfl qw_292 qw_289 qw_1 qw_290 qw_291 ⟨by decide, by decide, show (parseMethodDescriptor yX6_shore.desc).map (fun d => d.parameters.length) = some 0 by decide +kernel⟩ ⟨Nat.le_of_ble_eq_true rfl, Nat.le_of_ble_eq_true rfl⟩ ⟨Nat.le_of_ble_eq_true rfl, Nat.le_of_ble_eq_true rfl⟩ (Nat.le_of_ble_eq_true rfl) dL_law_209 rfl (fun r M1 L1 hp => ?_)
  obtain ⟨rfl, rfl, hT1, rfl⟩ := hp
  refine at_aload_n C 1 dL_law_212 rfl ?_
  refine at_call_i C (c_X7_shore l D G hT1) (As := []) (obj_Ref G) (ci := 7) rfl qw_994 qw_991 qw_8 qw_992 qw_993 ⟨by decide, by decide, show (parseMethodDescriptor yX7_shore.desc).map (fun d => d.parameters.length) = some 0 by decide +kernel⟩ ⟨Nat.le_of_ble_eq_true rfl, Nat.le_of_ble_eq_true rfl⟩ ⟨Nat.le_of_ble_eq_true rfl, Nat.le_of_ble_eq_true rfl⟩ (Nat.le_of_ble_eq_true rfl) dL_law_213 rfl (fun r2 M2 L2 hp => ?_)
  obtain ⟨rfl, rfl, hT2, rfl⟩ := hp
  obtain ⟨ee, hI⟩ := k_shore h hn hT1 hT2
  rw [ee]
  exact at_same C 1230 dL_law_216 (by decide) (K _ _ hI)
set_option maxHeartbeats 4000000 in
theorem q_1 (X : lX p s m b c D G Ls xs) (hi : i + 5 ≤ Ls) (h : Inv M L n) (hn : n + 1 ≤ 64) (K : ∀ M2 L2, Inv M2 L2 (n + 1) → lA p l e s m b below meth c D G Q 1230 i [] M2 L2) : lA p l e s m b below meth c D G Q 221 i [] M L := by
  obtain ⟨C, hX, hbl, hbA, hLs⟩ := X
  refine at_aload_n C 2 dL_law_221 rfl ?_
  refine at_scr C hX hbl hbA hLs 1 (by omega) 1 rfl dL_law_222 dL_law_223 dL_law_224 dL_law_225 dL_law_226 ?_
  refine at_scr C hX hbl hbA hLs 2 (by omega) 2 rfl dL_law_227 dL_law_228 dL_law_229 dL_law_230 dL_law_231 ?_
  refine at_call_i C (c_X6_current l D G ((xs (i + 1)).toInt) ((xs (i + 2)).toInt) (sI_ofR _) (sI_ofR _) h.2.1 (i_ct h)) (As := [.int (sI ((xs (i + 1)).toInt)), .int (sI ((xs (i + 2)).toInt))]) (obj_Sho G) (ci := 6) rfl qw_304 qw_301 qw_1 qw_302 qw_303 ⟨by decide, by decide, show (parseMethodDescriptor yX6_current.desc).map (fun d => d.parameters.length) = some 2 by decide +kernel⟩ ⟨Nat.le_of_ble_eq_true rfl, Nat.le_of_ble_eq_true rfl⟩ ⟨Nat.le_of_ble_eq_true rfl, Nat.le_of_ble_eq_true rfl⟩ (Nat.le_of_ble_eq_true rfl) dL_law_232 rfl (fun r M1 L1 hp => ?_)
  obtain ⟨rfl, rfl, hT1, rfl⟩ := hp
  refine at_aload_n C 1 dL_law_235 rfl ?_
  refine at_scr C hX hbl hbA hLs 1 (by omega) 1 rfl dL_law_236 dL_law_237 dL_law_238 dL_law_239 dL_law_240 ?_
  refine at_scr C hX hbl hbA hLs 2 (by omega) 2 rfl dL_law_241 dL_law_242 dL_law_243 dL_law_244 dL_law_245 ?_
  refine at_call_i C (c_X7_current l D G ((xs (i + 1)).toInt) ((xs (i + 2)).toInt) (sI_ofR _) (sI_ofR _) hT1 (mid_q h ox_cur)) (As := [.int (sI ((xs (i + 1)).toInt)), .int (sI ((xs (i + 2)).toInt))]) (obj_Ref G) (ci := 7) rfl qw_998 qw_995 qw_8 qw_996 qw_997 ⟨by decide, by decide, show (parseMethodDescriptor yX7_current.desc).map (fun d => d.parameters.length) = some 2 by decide +kernel⟩ ⟨Nat.le_of_ble_eq_true rfl, Nat.le_of_ble_eq_true rfl⟩ ⟨Nat.le_of_ble_eq_true rfl, Nat.le_of_ble_eq_true rfl⟩ (Nat.le_of_ble_eq_true rfl) dL_law_246 rfl (fun r2 M2 L2 hp => ?_)
  obtain ⟨rfl, rfl, hT2, rfl⟩ := hp
  obtain ⟨ee, hI⟩ := k_current h hn _ _ hT1 hT2
  rw [ee]
  exact at_same C 1230 dL_law_249 (by decide) (K _ _ hI)
set_option maxHeartbeats 4000000 in
theorem q_2 (X : lX p s m b c D G Ls xs) (hi : i + 5 ≤ Ls) (h : Inv M L n) (hn : n + 1 ≤ 64) (K : ∀ M2 L2, Inv M2 L2 (n + 1) → lA p l e s m b below meth c D G Q 1230 i [] M2 L2) : lA p l e s m b below meth c D G Q 254 i [] M L := by
  obtain ⟨C, hX, hbl, hbA, hLs⟩ := X
  refine at_aload_n C 2 dL_law_254 rfl ?_
  refine at_scr C hX hbl hbA hLs 1 (by omega) 1 rfl dL_law_255 dL_law_256 dL_law_257 dL_law_258 dL_law_259 ?_
  refine at_scr C hX hbl hbA hLs 2 (by omega) 2 rfl dL_law_260 dL_law_261 dL_law_262 dL_law_263 dL_law_264 ?_
  refine at_scr C hX hbl hbA hLs 3 (by omega) 3 rfl dL_law_265 dL_law_266 dL_law_267 dL_law_268 dL_law_269 ?_
  refine at_call_i C (c_X6_soul l D G ((xs (i + 1)).toInt) ((xs (i + 2)).toInt) ((xs (i + 3)).toInt) (sI_ofR _) (sI_ofR _) (sI_ofR _) h.2.1 (i_ct h)) (As := [.int (sI ((xs (i + 1)).toInt)), .int (sI ((xs (i + 2)).toInt)), .int (sI ((xs (i + 3)).toInt))]) (obj_Sho G) (ci := 6) rfl qw_315 qw_312 qw_1 qw_313 qw_314 ⟨by decide, by decide, show (parseMethodDescriptor yX6_soul.desc).map (fun d => d.parameters.length) = some 3 by decide +kernel⟩ ⟨Nat.le_of_ble_eq_true rfl, Nat.le_of_ble_eq_true rfl⟩ ⟨Nat.le_of_ble_eq_true rfl, Nat.le_of_ble_eq_true rfl⟩ (Nat.le_of_ble_eq_true rfl) dL_law_270 rfl (fun r M1 L1 hp => ?_)
  obtain ⟨rfl, rfl, hT1, rfl⟩ := hp
  refine at_aload_n C 1 dL_law_273 rfl ?_
  refine at_scr C hX hbl hbA hLs 1 (by omega) 1 rfl dL_law_274 dL_law_275 dL_law_276 dL_law_277 dL_law_278 ?_
  refine at_scr C hX hbl hbA hLs 2 (by omega) 2 rfl dL_law_279 dL_law_280 dL_law_281 dL_law_282 dL_law_283 ?_
  refine at_scr C hX hbl hbA hLs 3 (by omega) 3 rfl dL_law_284 dL_law_285 dL_law_286 dL_law_287 dL_law_288 ?_
  refine at_call_i C (c_X7_soul l D G ((xs (i + 1)).toInt) ((xs (i + 2)).toInt) ((xs (i + 3)).toInt) (sI_ofR _) (sI_ofR _) (sI_ofR _) hT1 (mid_q h ox_soul)) (As := [.int (sI ((xs (i + 1)).toInt)), .int (sI ((xs (i + 2)).toInt)), .int (sI ((xs (i + 3)).toInt))]) (obj_Ref G) (ci := 7) rfl qw_1016 qw_1013 qw_8 qw_1014 qw_1015 ⟨by decide, by decide, show (parseMethodDescriptor yX7_soul.desc).map (fun d => d.parameters.length) = some 3 by decide +kernel⟩ ⟨Nat.le_of_ble_eq_true rfl, Nat.le_of_ble_eq_true rfl⟩ ⟨Nat.le_of_ble_eq_true rfl, Nat.le_of_ble_eq_true rfl⟩ (Nat.le_of_ble_eq_true rfl) dL_law_289 rfl (fun r2 M2 L2 hp => ?_)
  obtain ⟨rfl, rfl, hT2, rfl⟩ := hp
  obtain ⟨ee, hI⟩ := k_soul h hn _ _ _ hT1 hT2
  rw [ee]
  exact at_same C 1230 dL_law_292 (by decide) (K _ _ hI)
set_option maxHeartbeats 4000000 in
theorem q_3 (X : lX p s m b c D G Ls xs) (hi : i + 5 ≤ Ls) (h : Inv M L n) (hn : n + 1 ≤ 64) (K : ∀ M2 L2, Inv M2 L2 (n + 1) → lA p l e s m b below meth c D G Q 1230 i [] M2 L2) : lA p l e s m b below meth c D G Q 297 i [] M L := by
  obtain ⟨C, hX, hbl, hbA, hLs⟩ := X
  refine at_aload_n C 2 dL_law_297 rfl ?_
  refine at_scr C hX hbl hbA hLs 1 (by omega) 1 rfl dL_law_298 dL_law_299 dL_law_300 dL_law_301 dL_law_302 ?_
  refine at_call_i C (c_X6_caller l D G ((xs (i + 1)).toInt) (sI_ofR _) h.2.1 (i_ct h)) (As := [.int (sI ((xs (i + 1)).toInt))]) (obj_Sho G) (ci := 6) rfl qw_327 qw_324 qw_1 qw_325 qw_326 ⟨by decide, by decide, show (parseMethodDescriptor yX6_caller.desc).map (fun d => d.parameters.length) = some 1 by decide +kernel⟩ ⟨Nat.le_of_ble_eq_true rfl, Nat.le_of_ble_eq_true rfl⟩ ⟨Nat.le_of_ble_eq_true rfl, Nat.le_of_ble_eq_true rfl⟩ (Nat.le_of_ble_eq_true rfl) dL_law_303 rfl (fun r M1 L1 hp => ?_)
  obtain ⟨rfl, rfl, hT1, rfl⟩ := hp
  refine at_aload_n C 1 dL_law_306 rfl ?_
  refine at_scr C hX hbl hbA hLs 1 (by omega) 1 rfl dL_law_307 dL_law_308 dL_law_309 dL_law_310 dL_law_311 ?_
  refine at_call_i C (c_X7_caller l D G ((xs (i + 1)).toInt) (sI_ofR _) hT1 (mid_q h ox_caller)) (As := [.int (sI ((xs (i + 1)).toInt))]) (obj_Ref G) (ci := 7) rfl qw_1028 qw_1025 qw_8 qw_1026 qw_1027 ⟨by decide, by decide, show (parseMethodDescriptor yX7_caller.desc).map (fun d => d.parameters.length) = some 1 by decide +kernel⟩ ⟨Nat.le_of_ble_eq_true rfl, Nat.le_of_ble_eq_true rfl⟩ ⟨Nat.le_of_ble_eq_true rfl, Nat.le_of_ble_eq_true rfl⟩ (Nat.le_of_ble_eq_true rfl) dL_law_312 rfl (fun r2 M2 L2 hp => ?_)
  obtain ⟨rfl, rfl, hT2, rfl⟩ := hp
  obtain ⟨ee, hI⟩ := k_caller h hn _ hT1 hT2
  rw [ee]
  exact at_same C 1230 dL_law_315 (by decide) (K _ _ hI)
set_option maxHeartbeats 4000000 in
theorem q_4 (X : lX p s m b c D G Ls xs) (hi : i + 5 ≤ Ls) (h : Inv M L n) (hn : n + 1 ≤ 64) (K : ∀ M2 L2, Inv M2 L2 (n + 1) → lA p l e s m b below meth c D G Q 1230 i [] M2 L2) : lA p l e s m b below meth c D G Q 320 i [] M L := by
  obtain ⟨C, hX, hbl, hbA, hLs⟩ := X
  refine at_aload_n C 2 dL_law_320 rfl ?_
  refine at_scr C hX hbl hbA hLs 1 (by omega) 1 rfl dL_law_321 dL_law_322 dL_law_323 dL_law_324 dL_law_325 ?_
  refine at_call_i C (c_X6_type l D G ((xs (i + 1)).toInt) (sI_ofR _) h.2.1 (i_ct h)) (As := [.int (sI ((xs (i + 1)).toInt))]) (obj_Sho G) (ci := 6) rfl qw_335 qw_332 qw_1 qw_333 qw_334 ⟨by decide, by decide, show (parseMethodDescriptor yX6_type.desc).map (fun d => d.parameters.length) = some 1 by decide +kernel⟩ ⟨Nat.le_of_ble_eq_true rfl, Nat.le_of_ble_eq_true rfl⟩ ⟨Nat.le_of_ble_eq_true rfl, Nat.le_of_ble_eq_true rfl⟩ (Nat.le_of_ble_eq_true rfl) dL_law_326 rfl (fun r M1 L1 hp => ?_)
  obtain ⟨rfl, rfl, hT1, rfl⟩ := hp
  refine at_aload_n C 1 dL_law_329 rfl ?_
  refine at_scr C hX hbl hbA hLs 1 (by omega) 1 rfl dL_law_330 dL_law_331 dL_law_332 dL_law_333 dL_law_334 ?_
  refine at_call_i C (c_X7_type l D G ((xs (i + 1)).toInt) (sI_ofR _) hT1 (mid_q h ox_type)) (As := [.int (sI ((xs (i + 1)).toInt))]) (obj_Ref G) (ci := 7) rfl qw_1036 qw_1033 qw_8 qw_1034 qw_1035 ⟨by decide, by decide, show (parseMethodDescriptor yX7_type.desc).map (fun d => d.parameters.length) = some 1 by decide +kernel⟩ ⟨Nat.le_of_ble_eq_true rfl, Nat.le_of_ble_eq_true rfl⟩ ⟨Nat.le_of_ble_eq_true rfl, Nat.le_of_ble_eq_true rfl⟩ (Nat.le_of_ble_eq_true rfl) dL_law_335 rfl (fun r2 M2 L2 hp => ?_)
  obtain ⟨rfl, rfl, hT2, rfl⟩ := hp
  obtain ⟨ee, hI⟩ := k_type h hn _ hT1 hT2
  rw [ee]
  exact at_same C 1230 dL_law_338 (by decide) (K _ _ hI)
set_option maxHeartbeats 4000000 in
theorem q_5 (X : lX p s m b c D G Ls xs) (hi : i + 5 ≤ Ls) (h : Inv M L n) (hn : n + 1 ≤ 64) (K : ∀ M2 L2, Inv M2 L2 (n + 1) → lA p l e s m b below meth c D G Q 1230 i [] M2 L2) : lA p l e s m b below meth c D G Q 343 i [] M L := by
  obtain ⟨C, hX, hbl, hbA, hLs⟩ := X
  refine at_aload_n C 2 dL_law_343 rfl ?_
  refine at_call_i C (c_X6_clear l D G h.2.1 (i_ct h)) (As := []) (obj_Sho G) (ci := 6) rfl qw_343 qw_340 qw_1 qw_341 qw_342 ⟨by decide, by decide, show (parseMethodDescriptor yX6_clear.desc).map (fun d => d.parameters.length) = some 0 by decide +kernel⟩ ⟨Nat.le_of_ble_eq_true rfl, Nat.le_of_ble_eq_true rfl⟩ ⟨Nat.le_of_ble_eq_true rfl, Nat.le_of_ble_eq_true rfl⟩ (Nat.le_of_ble_eq_true rfl) dL_law_344 rfl (fun r M1 L1 hp => ?_)
  obtain ⟨rfl, rfl, hT1, rfl⟩ := hp
  refine at_aload_n C 1 dL_law_347 rfl ?_
  refine at_call_i C (c_X7_clear l D G hT1) (As := []) (obj_Ref G) (ci := 7) rfl qw_1040 qw_1037 qw_8 qw_1038 qw_1039 ⟨by decide, by decide, show (parseMethodDescriptor yX7_clear.desc).map (fun d => d.parameters.length) = some 0 by decide +kernel⟩ ⟨Nat.le_of_ble_eq_true rfl, Nat.le_of_ble_eq_true rfl⟩ ⟨Nat.le_of_ble_eq_true rfl, Nat.le_of_ble_eq_true rfl⟩ (Nat.le_of_ble_eq_true rfl) dL_law_348 rfl (fun r2 M2 L2 hp => ?_)
  obtain ⟨rfl, rfl, hT2, rfl⟩ := hp
  obtain ⟨ee, hI⟩ := k_clear h hn hT1 hT2
  rw [ee]
  exact at_same C 1230 dL_law_351 (by decide) (K _ _ hI)
set_option maxHeartbeats 4000000 in
theorem q_6 (X : lX p s m b c D G Ls xs) (hi : i + 5 ≤ Ls) (h : Inv M L n) (hn : n + 1 ≤ 64) (K : ∀ M2 L2, Inv M2 L2 (n + 1) → lA p l e s m b below meth c D G Q 1230 i [] M2 L2) : lA p l e s m b below meth c D G Q 356 i [] M L := by
  obtain ⟨C, hX, hbl, hbA, hLs⟩ := X
  refine at_aload_n C 2 dL_law_356 rfl ?_
  refine at_call_i C (c_X6_read l D G h.2.1 (i_ct h)) (As := []) (obj_Sho G) (ci := 6) rfl qw_347 qw_344 qw_1 qw_345 qw_346 ⟨by decide, by decide, show (parseMethodDescriptor yX6_read.desc).map (fun d => d.parameters.length) = some 0 by decide +kernel⟩ ⟨Nat.le_of_ble_eq_true rfl, Nat.le_of_ble_eq_true rfl⟩ ⟨Nat.le_of_ble_eq_true rfl, Nat.le_of_ble_eq_true rfl⟩ (Nat.le_of_ble_eq_true rfl) dL_law_357 rfl (fun r M1 L1 hp => ?_)
  obtain ⟨rfl, hB, hT1, rfl⟩ := hp
  refine at_aload_n C 1 dL_law_360 rfl ?_
  have hx : okX M M1 := by rw [hB]; exact ox_read h
  refine at_call_i C (c_X7_read l D G (mid_z h hx) hT1) (As := []) (obj_Ref G) (ci := 7) rfl qw_1044 qw_1041 qw_8 qw_1042 qw_1043 ⟨by decide, by decide, show (parseMethodDescriptor yX7_read.desc).map (fun d => d.parameters.length) = some 0 by decide +kernel⟩ ⟨Nat.le_of_ble_eq_true rfl, Nat.le_of_ble_eq_true rfl⟩ ⟨Nat.le_of_ble_eq_true rfl, Nat.le_of_ble_eq_true rfl⟩ (Nat.le_of_ble_eq_true rfl) dL_law_361 rfl (fun r2 M2 L2 hp => ?_)
  obtain ⟨rfl, rfl, hT2, rfl⟩ := hp
  obtain ⟨ee, hI⟩ := k_read h hn hB hT1 hT2
  rw [ee]
  exact at_same C 1230 dL_law_364 (by decide) (K _ _ hI)
set_option maxHeartbeats 4000000 in
theorem q_7 (X : lX p s m b c D G Ls xs) (hi : i + 5 ≤ Ls) (h : Inv M L n) (hn : n + 1 ≤ 64) (K : ∀ M2 L2, Inv M2 L2 (n + 1) → lA p l e s m b below meth c D G Q 1230 i [] M2 L2) : lA p l e s m b below meth c D G Q 369 i [] M L := by
  obtain ⟨C, hX, hbl, hbA, hLs⟩ := X
  refine at_aload_n C 2 dL_law_369 rfl ?_
  refine at_scr C hX hbl hbA hLs 1 (by omega) 1 rfl dL_law_370 dL_law_371 dL_law_372 dL_law_373 dL_law_374 ?_
  refine at_call_i C (c_X6_tides l D G ((xs (i + 1)).toInt) (sI_ofR _) h.2.1 (i_ct h)) (As := [.int (sI ((xs (i + 1)).toInt))]) (obj_Sho G) (ci := 6) rfl qw_552 qw_549 qw_1 qw_550 qw_551 ⟨by decide, by decide, show (parseMethodDescriptor yX6_tides.desc).map (fun d => d.parameters.length) = some 1 by decide +kernel⟩ ⟨Nat.le_of_ble_eq_true rfl, Nat.le_of_ble_eq_true rfl⟩ ⟨Nat.le_of_ble_eq_true rfl, Nat.le_of_ble_eq_true rfl⟩ (Nat.le_of_ble_eq_true rfl) dL_law_375 rfl (fun r M1 L1 hp => ?_)
  obtain ⟨rfl, rfl, hT1, rfl⟩ := hp
  refine at_aload_n C 1 dL_law_378 rfl ?_
  refine at_scr C hX hbl hbA hLs 1 (by omega) 1 rfl dL_law_379 dL_law_380 dL_law_381 dL_law_382 dL_law_383 ?_
  refine at_call_i C (c_X7_tides l D G ((xs (i + 1)).toInt) (sI_ofR _) hT1 (mid_q h ox_tides)) (As := [.int (sI ((xs (i + 1)).toInt))]) (obj_Ref G) (ci := 7) rfl qw_1200 qw_1197 qw_8 qw_1198 qw_1199 ⟨by decide, by decide, show (parseMethodDescriptor yX7_tides.desc).map (fun d => d.parameters.length) = some 1 by decide +kernel⟩ ⟨Nat.le_of_ble_eq_true rfl, Nat.le_of_ble_eq_true rfl⟩ ⟨Nat.le_of_ble_eq_true rfl, Nat.le_of_ble_eq_true rfl⟩ (Nat.le_of_ble_eq_true rfl) dL_law_384 rfl (fun r2 M2 L2 hp => ?_)
  obtain ⟨rfl, rfl, hT2, rfl⟩ := hp
  obtain ⟨ee, hI⟩ := k_tides h hn _ hT1 hT2
  rw [ee]
  exact at_same C 1230 dL_law_387 (by decide) (K _ _ hI)
set_option maxHeartbeats 4000000 in
theorem q_8 (X : lX p s m b c D G Ls xs) (hi : i + 5 ≤ Ls) (h : Inv M L n) (hn : n + 1 ≤ 64) (K : ∀ M2 L2, Inv M2 L2 (n + 1) → lA p l e s m b below meth c D G Q 1230 i [] M2 L2) : lA p l e s m b below meth c D G Q 392 i [] M L := by
  obtain ⟨C, hX, hbl, hbA, hLs⟩ := X
  refine at_aload_n C 2 dL_law_392 rfl ?_
  refine at_scr C hX hbl hbA hLs 1 (by omega) 1 rfl dL_law_393 dL_law_394 dL_law_395 dL_law_396 dL_law_397 ?_
  refine at_call_i C (c_X6_walks l D G ((xs (i + 1)).toInt) (sI_ofR _) h.2.1 (i_ct h)) (As := [.int (sI ((xs (i + 1)).toInt))]) (obj_Sho G) (ci := 6) rfl qw_565 qw_562 qw_1 qw_563 qw_564 ⟨by decide, by decide, show (parseMethodDescriptor yX6_walks.desc).map (fun d => d.parameters.length) = some 1 by decide +kernel⟩ ⟨Nat.le_of_ble_eq_true rfl, Nat.le_of_ble_eq_true rfl⟩ ⟨Nat.le_of_ble_eq_true rfl, Nat.le_of_ble_eq_true rfl⟩ (Nat.le_of_ble_eq_true rfl) dL_law_398 rfl (fun r M1 L1 hp => ?_)
  obtain ⟨rfl, rfl, hT1, rfl⟩ := hp
  refine at_aload_n C 1 dL_law_401 rfl ?_
  refine at_scr C hX hbl hbA hLs 1 (by omega) 1 rfl dL_law_402 dL_law_403 dL_law_404 dL_law_405 dL_law_406 ?_
  refine at_call_i C (c_X7_walks l D G ((xs (i + 1)).toInt) (sI_ofR _) (mid_t h ox_walks) hT1 (mid_q h ox_walks)) (As := [.int (sI ((xs (i + 1)).toInt))]) (obj_Ref G) (ci := 7) rfl qw_1212 qw_1209 qw_8 qw_1210 qw_1211 ⟨by decide, by decide, show (parseMethodDescriptor yX7_walks.desc).map (fun d => d.parameters.length) = some 1 by decide +kernel⟩ ⟨Nat.le_of_ble_eq_true rfl, Nat.le_of_ble_eq_true rfl⟩ ⟨Nat.le_of_ble_eq_true rfl, Nat.le_of_ble_eq_true rfl⟩ (Nat.le_of_ble_eq_true rfl) dL_law_407 rfl (fun r2 M2 L2 hp => ?_)
  obtain ⟨rfl, rfl, hT2, rfl⟩ := hp
  obtain ⟨ee, hI⟩ := k_walks h hn _ hT1 hT2
  rw [ee]
  exact at_same C 1230 dL_law_410 (by decide) (K _ _ hI)
set_option maxHeartbeats 4000000 in
theorem q_9 (X : lX p s m b c D G Ls xs) (hi : i + 5 ≤ Ls) (h : Inv M L n) (hn : n + 1 ≤ 64) (K : ∀ M2 L2, Inv M2 L2 (n + 1) → lA p l e s m b below meth c D G Q 1230 i [] M2 L2) : lA p l e s m b below meth c D G Q 415 i [] M L := by
  obtain ⟨C, hX, hbl, hbA, hLs⟩ := X
  refine at_aload_n C 2 dL_law_415 rfl ?_
  refine at_scr C hX hbl hbA hLs 1 (by omega) 1 rfl dL_law_416 dL_law_417 dL_law_418 dL_law_419 dL_law_420 ?_
  refine at_call_i C (c_X6_calls l D G ((xs (i + 1)).toInt) (sI_ofR _) h.2.1 (i_ct h)) (As := [.int (sI ((xs (i + 1)).toInt))]) (obj_Sho G) (ci := 6) rfl qw_575 qw_572 qw_1 qw_573 qw_574 ⟨by decide, by decide, show (parseMethodDescriptor yX6_calls.desc).map (fun d => d.parameters.length) = some 1 by decide +kernel⟩ ⟨Nat.le_of_ble_eq_true rfl, Nat.le_of_ble_eq_true rfl⟩ ⟨Nat.le_of_ble_eq_true rfl, Nat.le_of_ble_eq_true rfl⟩ (Nat.le_of_ble_eq_true rfl) dL_law_421 rfl (fun r M1 L1 hp => ?_)
  obtain ⟨rfl, rfl, hT1, rfl⟩ := hp
  refine at_aload_n C 1 dL_law_424 rfl ?_
  refine at_scr C hX hbl hbA hLs 1 (by omega) 1 rfl dL_law_425 dL_law_426 dL_law_427 dL_law_428 dL_law_429 ?_
  refine at_call_i C (c_X7_calls l D G ((xs (i + 1)).toInt) (sI_ofR _) hT1 (mid_q h ox_calls)) (As := [.int (sI ((xs (i + 1)).toInt))]) (obj_Ref G) (ci := 7) rfl qw_1220 qw_1217 qw_8 qw_1218 qw_1219 ⟨by decide, by decide, show (parseMethodDescriptor yX7_calls.desc).map (fun d => d.parameters.length) = some 1 by decide +kernel⟩ ⟨Nat.le_of_ble_eq_true rfl, Nat.le_of_ble_eq_true rfl⟩ ⟨Nat.le_of_ble_eq_true rfl, Nat.le_of_ble_eq_true rfl⟩ (Nat.le_of_ble_eq_true rfl) dL_law_430 rfl (fun r2 M2 L2 hp => ?_)
  obtain ⟨rfl, rfl, hT2, rfl⟩ := hp
  obtain ⟨ee, hI⟩ := k_calls h hn _ hT1 hT2
  rw [ee]
  exact at_same C 1230 dL_law_433 (by decide) (K _ _ hI)
set_option maxHeartbeats 4000000 in
theorem q_10 (X : lX p s m b c D G Ls xs) (hi : i + 5 ≤ Ls) (h : Inv M L n) (hn : n + 1 ≤ 64) (K : ∀ M2 L2, Inv M2 L2 (n + 1) → lA p l e s m b below meth c D G Q 1230 i [] M2 L2) : lA p l e s m b below meth c D G Q 438 i [] M L := by
  obtain ⟨C, hX, hbl, hbA, hLs⟩ := X
  refine at_aload_n C 2 dL_law_438 rfl ?_
  refine at_scr C hX hbl hbA hLs 1 (by omega) 1 rfl dL_law_439 dL_law_440 dL_law_441 dL_law_442 dL_law_443 ?_
  refine at_call_i C (c_X6_returns l D G ((xs (i + 1)).toInt) (sI_ofR _) h.2.1 (i_ct h)) (As := [.int (sI ((xs (i + 1)).toInt))]) (obj_Sho G) (ci := 6) rfl qw_585 qw_582 qw_1 qw_583 qw_584 ⟨by decide, by decide, show (parseMethodDescriptor yX6_returns.desc).map (fun d => d.parameters.length) = some 1 by decide +kernel⟩ ⟨Nat.le_of_ble_eq_true rfl, Nat.le_of_ble_eq_true rfl⟩ ⟨Nat.le_of_ble_eq_true rfl, Nat.le_of_ble_eq_true rfl⟩ (Nat.le_of_ble_eq_true rfl) dL_law_444 rfl (fun r M1 L1 hp => ?_)
  obtain ⟨rfl, rfl, hT1, rfl⟩ := hp
  refine at_aload_n C 1 dL_law_447 rfl ?_
  refine at_scr C hX hbl hbA hLs 1 (by omega) 1 rfl dL_law_448 dL_law_449 dL_law_450 dL_law_451 dL_law_452 ?_
  refine at_call_i C (c_X7_returns l D G ((xs (i + 1)).toInt) (sI_ofR _) hT1 (mid_q h ox_returns)) (As := [.int (sI ((xs (i + 1)).toInt))]) (obj_Ref G) (ci := 7) rfl qw_1228 qw_1225 qw_8 qw_1226 qw_1227 ⟨by decide, by decide, show (parseMethodDescriptor yX7_returns.desc).map (fun d => d.parameters.length) = some 1 by decide +kernel⟩ ⟨Nat.le_of_ble_eq_true rfl, Nat.le_of_ble_eq_true rfl⟩ ⟨Nat.le_of_ble_eq_true rfl, Nat.le_of_ble_eq_true rfl⟩ (Nat.le_of_ble_eq_true rfl) dL_law_453 rfl (fun r2 M2 L2 hp => ?_)
  obtain ⟨rfl, rfl, hT2, rfl⟩ := hp
  obtain ⟨ee, hI⟩ := k_returns h hn _ hT1 hT2
  rw [ee]
  exact at_same C 1230 dL_law_456 (by decide) (K _ _ hI)
set_option maxHeartbeats 4000000 in
theorem q_11 (X : lX p s m b c D G Ls xs) (hi : i + 5 ≤ Ls) (h : Inv M L n) (hn : n + 1 ≤ 64) (K : ∀ M2 L2, Inv M2 L2 (n + 1) → lA p l e s m b below meth c D G Q 1230 i [] M2 L2) : lA p l e s m b below meth c D G Q 461 i [] M L := by
  obtain ⟨C, hX, hbl, hbA, hLs⟩ := X
  refine at_aload_n C 2 dL_law_461 rfl ?_
  refine at_call_i C (c_X6_undo l D G h.2.1 (i_ct h)) (As := []) (obj_Sho G) (ci := 6) rfl qw_590 qw_587 qw_1 qw_588 qw_589 ⟨by decide, by decide, show (parseMethodDescriptor yX6_undo.desc).map (fun d => d.parameters.length) = some 0 by decide +kernel⟩ ⟨Nat.le_of_ble_eq_true rfl, Nat.le_of_ble_eq_true rfl⟩ ⟨Nat.le_of_ble_eq_true rfl, Nat.le_of_ble_eq_true rfl⟩ (Nat.le_of_ble_eq_true rfl) dL_law_462 rfl (fun r M1 L1 hp => ?_)
  obtain ⟨rfl, rfl, hT1, rfl⟩ := hp
  refine at_aload_n C 1 dL_law_465 rfl ?_
  refine at_call_i C (c_X7_undo l D G hT1 (mid_q h ox_undo)) (As := []) (obj_Ref G) (ci := 7) rfl qw_1232 qw_1229 qw_8 qw_1230 qw_1231 ⟨by decide, by decide, show (parseMethodDescriptor yX7_undo.desc).map (fun d => d.parameters.length) = some 0 by decide +kernel⟩ ⟨Nat.le_of_ble_eq_true rfl, Nat.le_of_ble_eq_true rfl⟩ ⟨Nat.le_of_ble_eq_true rfl, Nat.le_of_ble_eq_true rfl⟩ (Nat.le_of_ble_eq_true rfl) dL_law_466 rfl (fun r2 M2 L2 hp => ?_)
  obtain ⟨rfl, rfl, hT2, rfl⟩ := hp
  obtain ⟨ee, hI⟩ := k_undo h hn hT1 hT2
  rw [ee]
  exact at_same C 1230 dL_law_469 (by decide) (K _ _ hI)
set_option maxHeartbeats 4000000 in
theorem q_12 (X : lX p s m b c D G Ls xs) (hi : i + 5 ≤ Ls) (h : Inv M L n) (hn : n + 1 ≤ 64) (K : ∀ M2 L2, Inv M2 L2 (n + 1) → lA p l e s m b below meth c D G Q 1230 i [] M2 L2) : lA p l e s m b below meth c D G Q 474 i [] M L := by
  obtain ⟨C, hX, hbl, hbA, hLs⟩ := X
  refine at_aload_n C 2 dL_law_474 rfl ?_
  refine at_scr C hX hbl hbA hLs 1 (by omega) 1 rfl dL_law_475 dL_law_476 dL_law_477 dL_law_478 dL_law_479 ?_
  refine at_scr C hX hbl hbA hLs 2 (by omega) 2 rfl dL_law_480 dL_law_481 dL_law_482 dL_law_483 dL_law_484 ?_
  refine at_call_i C (c_X6_of l D G ((xs (i + 1)).toInt) ((xs (i + 2)).toInt) (sI_ofR _) (sI_ofR _) h.2.1 (i_ct h)) (As := [.int (sI ((xs (i + 1)).toInt)), .int (sI ((xs (i + 2)).toInt))]) (obj_Sho G) (ci := 6) rfl qw_598 qw_595 qw_1 qw_596 qw_597 ⟨by decide, by decide, show (parseMethodDescriptor yX6_of.desc).map (fun d => d.parameters.length) = some 2 by decide +kernel⟩ ⟨Nat.le_of_ble_eq_true rfl, Nat.le_of_ble_eq_true rfl⟩ ⟨Nat.le_of_ble_eq_true rfl, Nat.le_of_ble_eq_true rfl⟩ (Nat.le_of_ble_eq_true rfl) dL_law_485 rfl (fun r M1 L1 hp => ?_)
  obtain ⟨rfl, hB, hT1, rfl⟩ := hp
  refine at_aload_n C 1 dL_law_488 rfl ?_
  refine at_scr C hX hbl hbA hLs 1 (by omega) 1 rfl dL_law_489 dL_law_490 dL_law_491 dL_law_492 dL_law_493 ?_
  refine at_scr C hX hbl hbA hLs 2 (by omega) 2 rfl dL_law_494 dL_law_495 dL_law_496 dL_law_497 dL_law_498 ?_
  have hx : okX M M1 := by rw [hB]; exact ox_b
  refine at_call_i C (c_X7_of l D G ((xs (i + 1)).toInt) ((xs (i + 2)).toInt) (sI_ofR _) (sI_ofR _) hT1 (mid_q h hx)) (As := [.int (sI ((xs (i + 1)).toInt)), .int (sI ((xs (i + 2)).toInt))]) (obj_Ref G) (ci := 7) rfl qw_1236 qw_1233 qw_8 qw_1234 qw_1235 ⟨by decide, by decide, show (parseMethodDescriptor yX7_of.desc).map (fun d => d.parameters.length) = some 2 by decide +kernel⟩ ⟨Nat.le_of_ble_eq_true rfl, Nat.le_of_ble_eq_true rfl⟩ ⟨Nat.le_of_ble_eq_true rfl, Nat.le_of_ble_eq_true rfl⟩ (Nat.le_of_ble_eq_true rfl) dL_law_499 rfl (fun r2 M2 L2 hp => ?_)
  obtain ⟨rfl, rfl, hT2, rfl⟩ := hp
  obtain ⟨ee, hI⟩ := k_of h hn ((xs (i + 1)).toInt) ((xs (i + 2)).toInt) hB hT1 hT2
  rw [ee]
  exact at_same C 1230 dL_law_502 (by decide) (K _ _ hI)
set_option maxHeartbeats 4000000 in
theorem q_13 (X : lX p s m b c D G Ls xs) (hi : i + 5 ≤ Ls) (h : Inv M L n) (hn : n + 1 ≤ 64) (K : ∀ M2 L2, Inv M2 L2 (n + 1) → lA p l e s m b below meth c D G Q 1230 i [] M2 L2) : lA p l e s m b below meth c D G Q 507 i [] M L := by
  obtain ⟨C, hX, hbl, hbA, hLs⟩ := X
  refine at_aload_n C 2 dL_law_507 rfl ?_
  refine at_scr C hX hbl hbA hLs 1 (by omega) 1 rfl dL_law_508 dL_law_509 dL_law_510 dL_law_511 dL_law_512 ?_
  refine at_scr C hX hbl hbA hLs 2 (by omega) 2 rfl dL_law_513 dL_law_514 dL_law_515 dL_law_516 dL_law_517 ?_
  refine at_call_i C (c_X6_about l D G ((xs (i + 1)).toInt) ((xs (i + 2)).toInt) (sI_ofR _) (sI_ofR _) h.2.1 (i_ct h)) (As := [.int (sI ((xs (i + 1)).toInt)), .int (sI ((xs (i + 2)).toInt))]) (obj_Sho G) (ci := 6) rfl qw_614 qw_611 qw_1 qw_612 qw_613 ⟨by decide, by decide, show (parseMethodDescriptor yX6_about.desc).map (fun d => d.parameters.length) = some 2 by decide +kernel⟩ ⟨Nat.le_of_ble_eq_true rfl, Nat.le_of_ble_eq_true rfl⟩ ⟨Nat.le_of_ble_eq_true rfl, Nat.le_of_ble_eq_true rfl⟩ (Nat.le_of_ble_eq_true rfl) dL_law_518 rfl (fun r M1 L1 hp => ?_)
  obtain ⟨rfl, hB, hT1, rfl⟩ := hp
  refine at_aload_n C 1 dL_law_521 rfl ?_
  refine at_scr C hX hbl hbA hLs 1 (by omega) 1 rfl dL_law_522 dL_law_523 dL_law_524 dL_law_525 dL_law_526 ?_
  refine at_scr C hX hbl hbA hLs 2 (by omega) 2 rfl dL_law_527 dL_law_528 dL_law_529 dL_law_530 dL_law_531 ?_
  have hx : okX M M1 := by rw [hB]; exact ox_b
  refine at_call_i C (c_X7_about l D G ((xs (i + 1)).toInt) ((xs (i + 2)).toInt) (sI_ofR _) (sI_ofR _) hT1 (mid_q h hx)) (As := [.int (sI ((xs (i + 1)).toInt)), .int (sI ((xs (i + 2)).toInt))]) (obj_Ref G) (ci := 7) rfl qw_1244 qw_1241 qw_8 qw_1242 qw_1243 ⟨by decide, by decide, show (parseMethodDescriptor yX7_about.desc).map (fun d => d.parameters.length) = some 2 by decide +kernel⟩ ⟨Nat.le_of_ble_eq_true rfl, Nat.le_of_ble_eq_true rfl⟩ ⟨Nat.le_of_ble_eq_true rfl, Nat.le_of_ble_eq_true rfl⟩ (Nat.le_of_ble_eq_true rfl) dL_law_532 rfl (fun r2 M2 L2 hp => ?_)
  obtain ⟨rfl, rfl, hT2, rfl⟩ := hp
  obtain ⟨ee, hI⟩ := k_about h hn ((xs (i + 1)).toInt) ((xs (i + 2)).toInt) hB hT1 hT2
  rw [ee]
  exact at_same C 1230 dL_law_535 (by decide) (K _ _ hI)
end LC
