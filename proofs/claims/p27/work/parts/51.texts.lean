set_option maxRecDepth 100000 in
set_option maxHeartbeats 4000000 in
theorem SG_texts_2 (l : Launch) (hT : l.stackTraces = false) (Δ : zE) {p : Program} {e : Env} {s : State} {m : MethodId} {args : Array Value} {below : List Frame} {meth : Method} {c : Code} {A : Nat → Prop} (Y : zY Δ p l s m args meth c yL_texts cL_texts 2 (some .boolean) A) {H : Heap} {locs : List Loc} {ls : Array Slot} {a : Nat} {ws : va_W} (Z : zW Δ A s.heap (ws ++ []) H locs) (hl : lv_has ls 2 [(1, .int 60), (0, .ref a)]) (hw : wOb Δ a (U_t 60) ws) : W p l e { frames := 11, cells := 1073, slots := 9215, locals := 216 } s m args below meth c H locs 1043 8937 (zEndX Δ below args s 1073 9215 A (fun rv w => rv = some (.int 1) ∧ w = []) (fun _ _ => False)) (F0 m 382 ls []) := by
  have X := Y.1
  rw [show U_t 60 = T_66 from sb_ok (by decide +kernel)] at hw
  refine lv_aload_n X.x X.b dL_texts_382 rfl (lv_at hl 1 rfl) ?_
  refine lv_bipush (v := 8) X.x X.b dL_texts_383 kb_8 ?_
  refine lv_bipush (v := 48) X.x X.b dL_texts_385 kb_48 ?_
  refine lv_iconst (v := 0) X.x X.b dL_texts_387 ki_0 ?_
  refine lv_iconst (v := 0) X.x X.b dL_texts_388 ki_0 ?_
  refine o_statX (wr := []) Y Z hl (M_told l hT Δ 8 48 0 0 fc_203 a ws hw) wd_349 wd_350 wd_18 wd_351 ok_L_told rfl (rest := []) rfl (Nat.le_of_ble_eq_true rfl) ⟨Nat.le_of_ble_eq_true rfl, Nat.le_of_ble_eq_true rfl⟩ ⟨Nat.le_of_ble_eq_true rfl, Nat.le_of_ble_eq_true rfl⟩ (c1 := 1058) (s1 := 9076) rfl rfl dL_texts_389 (fun rv ws H locs hP Z => ?_)
  obtain ⟨rfl, hw⟩ := hP
  refine W.eq (g2 := F0 m 392 ls [.int (-12)]) rfl ?_
  refine lv_bipush (v := (-12)) X.x X.b dL_texts_392 kb_m12 ?_
  refine lv_icmp_ne (tgt := 433) X.x X.b dL_texts_394 (by decide) (fun h => absurd h (by decide)) (fun _ => ?_)
  refine lv_aload_n X.x X.b dL_texts_397 rfl (lv_at hl 1 rfl) ?_
  refine o_call (wr := []) Y Z hl hw (C_firstError l hT Δ  fc_204) wd_741 wd_742 wd_743 wd_19 wd_744 ok_X6_firstError rfl rfl (rest := []) rfl (Nat.le_of_ble_eq_true rfl) ⟨Nat.le_of_ble_eq_true rfl, Nat.le_of_ble_eq_true rfl⟩ ⟨Nat.le_of_ble_eq_true rfl, Nat.le_of_ble_eq_true rfl⟩ (c1 := 1058) (s1 := 9076) rfl rfl dL_texts_398 (fun ws H locs hw Z => ?_)
  refine lv_bipush (v := 60) X.x X.b dL_texts_401 kb_60 ?_
  refine lv_icmp_ne (tgt := 433) X.x X.b dL_texts_403 (by decide) (fun h => absurd h (by decide)) (fun _ => ?_)
  refine lv_aload_n X.x X.b dL_texts_406 rfl (lv_at hl 1 rfl) ?_
  refine lv_bipush (v := 9) X.x X.b dL_texts_407 kb_9 ?_
  refine lv_iconst (v := 0) X.x X.b dL_texts_409 ki_0 ?_
  refine lv_iconst (v := 0) X.x X.b dL_texts_410 ki_0 ?_
  refine lv_iconst (v := 0) X.x X.b dL_texts_411 ki_0 ?_
  refine o_statX (wr := []) Y Z hl (M_told l hT Δ 9 0 0 0 fc_205 a ws hw) wd_349 wd_350 wd_18 wd_351 ok_L_told rfl (rest := []) rfl (Nat.le_of_ble_eq_true rfl) ⟨Nat.le_of_ble_eq_true rfl, Nat.le_of_ble_eq_true rfl⟩ ⟨Nat.le_of_ble_eq_true rfl, Nat.le_of_ble_eq_true rfl⟩ (c1 := 1073) (s1 := 9215) rfl rfl dL_texts_412 (fun rv ws H locs hP Z => ?_)
  obtain ⟨rfl, hw⟩ := hP
  refine W.eq (g2 := F0 m 415 ls [.int (-11)]) rfl ?_
  refine lv_bipush (v := (-11)) X.x X.b dL_texts_415 kb_m11 ?_
  refine lv_icmp_ne (tgt := 433) X.x X.b dL_texts_417 (by decide) (fun h => absurd h (by decide)) (fun _ => ?_)
  refine lv_aload_n X.x X.b dL_texts_420 rfl (lv_at hl 1 rfl) ?_
  refine o_call (wr := []) Y Z hl hw (C_clearBuffer l hT Δ  fc_206) wd_727 wd_728 wd_729 wd_19 wd_730 ok_X6_clearBuffer rfl rfl (rest := []) rfl (Nat.le_of_ble_eq_true rfl) ⟨Nat.le_of_ble_eq_true rfl, Nat.le_of_ble_eq_true rfl⟩ ⟨Nat.le_of_ble_eq_true rfl, Nat.le_of_ble_eq_true rfl⟩ (c1 := 1073) (s1 := 9215) rfl rfl dL_texts_421 (fun ws H locs hw Z => ?_)
  refine lv_bipush (v := 60) X.x X.b dL_texts_424 kb_60 ?_
  refine lv_icmp_ne (tgt := 433) X.x X.b dL_texts_426 (by decide) (fun h => absurd h (by decide)) (fun _ => ?_)
  refine lv_iconst (v := 1) X.x X.b dL_texts_429 ki_1 ?_
  refine lv_goto (tgt := 434) X.x X.b dL_texts_430 (by decide) ?_
  exact x_zret X Z.none (Or.inr rfl) ⟨rfl, rfl⟩ (Nat.le_of_ble_eq_true rfl) (Nat.le_of_ble_eq_true rfl) dL_texts_434
set_option maxRecDepth 100000 in
set_option maxHeartbeats 4000000 in
theorem SG_texts_loop (l : Launch) (hT : l.stackTraces = false) (Δ : zE) {p : Program} {e : Env} {s : State} {m : MethodId} {args : Array Value} {below : List Frame} {meth : Method} {c : Code} {A : Nat → Prop} (Y : zY Δ p l s m args meth c yL_texts cL_texts 2 (some .boolean) A) {a : Nat} : ∀ (d j : Nat), j + d = 60 → ∀ {H : Heap} {locs : List Loc} {ls : Array Slot} {ws : va_W} (_ : zW Δ A s.heap (ws ++ []) H locs) (_ : lv_has ls 2 [(1, .int (nI j)), (0, .ref a)]) (_ : wOb Δ a (U_t j) ws), W p l e { frames := 11, cells := 1073, slots := 9215, locals := 216 } s m args below meth c H locs (983 + 1 * j) (8577 + 6 * j) (zEndX Δ below args s 1073 9215 A (fun rv w => rv = some (.int 1) ∧ w = []) (fun _ _ => False)) (F0 m 345 ls []) := by
  have X := Y.1
  intro d
  induction d with
  | zero =>
    intro j hj H locs ls ws Z hl hw
    obtain rfl : j = 60 := by omega
    refine lv_iload_n X.x X.b dL_texts_345 rfl (lv_at hl 0 rfl) ?_
    refine lv_bipush (v := 60) X.x X.b dL_texts_346 kb_60 ?_
    refine lv_icmp_ge (tgt := 382) X.x X.b dL_texts_348 (by decide) (fun _ => ?_) (fun h => absurd (by decide) h)
    exact SG_texts_2 l hT Δ Y Z hl hw
  | succ d ih =>
    intro j hj H locs ls ws Z hl hw
    have hlt : ¬ (60 : Int32) ≤ nI j := nI_ge (b := 60) (by omega) (by decide)
    refine lv_iload_n X.x X.b dL_texts_345 rfl (lv_at hl 0 rfl) ?_
    refine lv_bipush (v := 60) X.x X.b dL_texts_346 kb_60 ?_
    refine lv_icmp_ge (tgt := 382) X.x X.b dL_texts_348 (by decide) (fun h => absurd h hlt) (fun _ => ?_)
    refine lv_aload_n X.x X.b dL_texts_351 rfl (lv_at hl 1 rfl) ?_
    refine lv_iload_n X.x X.b dL_texts_352 rfl (lv_at hl 0 rfl) ?_
    refine lv_iconst (v := 2) X.x X.b dL_texts_353 ki_2 ?_
    refine lv_irem X.x X.b dL_texts_354 (by decide) ?_
    rw [(U_rem j (by omega))]
    have key : ∀ (ch : Int32) (H : Heap) (locs : List Loc), ch = U_ch j → zW Δ A s.heap (ws ++ []) H locs → W p l e { frames := 11, cells := 1073, slots := 9215, locals := 216 } s m args below meth c H locs (983 + 1 * j) (8577 + 6 * j) (zEndX Δ below args s 1073 9215 A (fun rv w => rv = some (.int 1) ∧ w = []) (fun _ _ => False)) (F0 m 365 ls [.int ch, .ref a]) := by
      intro ch H locs hch Z
      subst hch
      refine o_call (wr := []) Y Z hl hw (C_append l hT Δ _ (U_all j (by omega))) wd_517 wd_518 wd_519 wd_19 wd_520 ok_X6_append rfl rfl (rest := []) rfl (Nat.le_of_ble_eq_true rfl) ⟨Nat.le_of_ble_eq_true rfl, Nat.le_of_ble_eq_true rfl⟩ ⟨by show 983 + 1 * j + 1 ≤ 1073; omega, by show 8577 + 6 * j + 6 ≤ 9215; omega⟩ (c1 := 983 + 1 * (j + 1)) (s1 := 8577 + 6 * (j + 1)) (by omega) (by omega) dL_texts_365 (fun ws H locs hw Z => ?_)
      refine lv_iload_n X.x X.b dL_texts_368 rfl (lv_at hl 0 rfl) ?_
      refine lv_iconst (v := 1) X.x X.b dL_texts_369 ki_1 ?_
      refine lv_iadd X.x X.b dL_texts_370 ?_
      rw [nI_1]
      refine lv_icmp_eq (tgt := 376) X.x X.b dL_texts_371 (by decide) (fun _ => ?_) (fun h => absurd rfl h)
      refine lv_iinc (v := nI (j + 1)) (lv' := [(1, .int (nI (j + 1))), (0, .ref a)]) X.x X.b dL_texts_376 hl (k := 0) rfl ((congrArg _ ki_1).trans (nI_1 j)) (Nat.le_of_ble_eq_true rfl) rfl (fun ls hl => ?_)
      refine lv_goto (tgt := 345) X.x X.b dL_texts_379 (by decide) ?_
      exact ih (j + 1) (by omega) Z hl hw
    by_cases hj2 : j % 2 = 0
    · rw [if_pos hj2]
      refine lv_if_ne (tgt := 363) X.x X.b dL_texts_355 (by decide) (fun h => absurd rfl h) (fun _ => ?_)
      refine lv_bipush (v := 48) X.x X.b dL_texts_358 kb_48 ?_
      refine lv_goto (tgt := 365) X.x X.b dL_texts_360 (by decide) ?_
      exact key 48 _ _ (by unfold U_ch; rw [if_pos hj2]) Z
    · rw [if_neg hj2]
      refine lv_if_ne (tgt := 363) X.x X.b dL_texts_355 (by decide) (fun _ => ?_) (fun h => absurd h (by decide))
      refine lv_bipush (v := 59) X.x X.b dL_texts_363 kb_59 ?_
      exact key 59 _ _ (by unfold U_ch; rw [if_neg hj2]) Z
set_option maxRecDepth 100000 in
set_option maxHeartbeats 4000000 in
theorem SG_texts_1 (l : Launch) (hT : l.stackTraces = false) (Δ : zE) {p : Program} {e : Env} {s : State} {m : MethodId} {args : Array Value} {below : List Frame} {meth : Method} {c : Code} {A : Nat → Prop} (Y : zY Δ p l s m args meth c yL_texts cL_texts 2 (some .boolean) A) {H : Heap} {locs : List Loc} {ls : Array Slot} {a : Nat} {ws : va_W} (Z : zW Δ A s.heap (ws ++ []) H locs) (hl : lv_has ls 2 [(0, .ref a)]) (hw : wOb Δ a T_62 ws) : W p l e { frames := 11, cells := 1073, slots := 9215, locals := 216 } s m args below meth c H locs 945 8300 (zEndX Δ below args s 1073 9215 A (fun rv w => rv = some (.int 1) ∧ w = []) (fun _ _ => False)) (F0 m 225 ls []) := by
  have X := Y.1
  refine lv_aload_n X.x X.b dL_texts_225 rfl (lv_at hl 0 rfl) ?_
  refine lv_ldc2 (v := 993075505) X.x X.b X.own (X.ts _ wd_765) dL_texts_226 ?_
  refine o_stat (wr := []) Y Z hl (M_types l hT Δ fc_191 a ws hw) wd_737 wd_738 wd_18 wd_739 ok_L_types rfl (rest := []) rfl (Nat.le_of_ble_eq_true rfl) ⟨Nat.le_of_ble_eq_true rfl, Nat.le_of_ble_eq_true rfl⟩ ⟨Nat.le_of_ble_eq_true rfl, Nat.le_of_ble_eq_true rfl⟩ (c1 := 953) (s1 := 8348) rfl rfl dL_texts_229 (fun rv ws H locs hP Z => ?_)
  obtain ⟨rfl, hw⟩ := hP
  refine W.eq (g2 := F0 m 232 ls [.int 1]) rfl ?_
  refine lv_if_eq (tgt := 341) X.x X.b dL_texts_232 (by decide) (fun h => absurd h (by decide)) (fun _ => ?_)
  refine lv_aload_n X.x X.b dL_texts_235 rfl (lv_at hl 0 rfl) ?_
  refine o_call (wr := []) Y Z hl hw (C_addAll l hT Δ  fc_192) wd_527 wd_528 wd_529 wd_19 wd_530 ok_X6_addAll rfl rfl (rest := []) rfl (Nat.le_of_ble_eq_true rfl) ⟨Nat.le_of_ble_eq_true rfl, Nat.le_of_ble_eq_true rfl⟩ ⟨Nat.le_of_ble_eq_true rfl, Nat.le_of_ble_eq_true rfl⟩ (c1 := 966) (s1 := 8475) rfl rfl dL_texts_236 (fun ws H locs hw Z => ?_)
  refine lv_iconst (v := 3) X.x X.b dL_texts_239 ki_3 ?_
  refine lv_icmp_ne (tgt := 341) X.x X.b dL_texts_240 (by decide) (fun h => absurd h (by decide)) (fun _ => ?_)
  refine lv_aload_n X.x X.b dL_texts_243 rfl (lv_at hl 0 rfl) ?_
  refine lv_bipush (v := 6) X.x X.b dL_texts_244 kb_6 ?_
  refine o_call (wr := []) Y Z hl hw (C_count l hT Δ 6 fc_193) wd_290 wd_291 wd_292 wd_19 wd_293 ok_X6_count rfl rfl (rest := []) rfl (Nat.le_of_ble_eq_true rfl) ⟨Nat.le_of_ble_eq_true rfl, Nat.le_of_ble_eq_true rfl⟩ ⟨Nat.le_of_ble_eq_true rfl, Nat.le_of_ble_eq_true rfl⟩ (c1 := 967) (s1 := 8481) rfl rfl dL_texts_246 (fun ws H locs hw Z => ?_)
  refine lv_iconst (v := 1) X.x X.b dL_texts_249 ki_1 ?_
  refine lv_icmp_ne (tgt := 341) X.x X.b dL_texts_250 (by decide) (fun h => absurd h (by decide)) (fun _ => ?_)
  refine lv_aload_n X.x X.b dL_texts_253 rfl (lv_at hl 0 rfl) ?_
  refine lv_iconst (v := 0) X.x X.b dL_texts_254 ki_0 ?_
  refine lv_iconst (v := 0) X.x X.b dL_texts_255 ki_0 ?_
  refine o_call (wr := []) Y Z hl hw (C_part l hT Δ 0 0 fc_194) wd_584 wd_585 wd_586 wd_19 wd_587 ok_X6_part rfl rfl (rest := []) rfl (Nat.le_of_ble_eq_true rfl) ⟨Nat.le_of_ble_eq_true rfl, Nat.le_of_ble_eq_true rfl⟩ ⟨Nat.le_of_ble_eq_true rfl, Nat.le_of_ble_eq_true rfl⟩ (c1 := 969) (s1 := 8493) rfl rfl dL_texts_256 (fun ws H locs hw Z => ?_)
  refine lv_iconst (v := 5) X.x X.b dL_texts_259 ki_5 ?_
  refine lv_icmp_ne (tgt := 341) X.x X.b dL_texts_260 (by decide) (fun h => absurd h (by decide)) (fun _ => ?_)
  refine lv_aload_n X.x X.b dL_texts_263 rfl (lv_at hl 0 rfl) ?_
  refine lv_iconst (v := 0) X.x X.b dL_texts_264 ki_0 ?_
  refine lv_iconst (v := 1) X.x X.b dL_texts_265 ki_1 ?_
  refine o_call (wr := []) Y Z hl hw (C_part l hT Δ 0 1 fc_195) wd_584 wd_585 wd_586 wd_19 wd_587 ok_X6_part rfl rfl (rest := []) rfl (Nat.le_of_ble_eq_true rfl) ⟨Nat.le_of_ble_eq_true rfl, Nat.le_of_ble_eq_true rfl⟩ ⟨Nat.le_of_ble_eq_true rfl, Nat.le_of_ble_eq_true rfl⟩ (c1 := 971) (s1 := 8505) rfl rfl dL_texts_266 (fun ws H locs hw Z => ?_)
  refine lv_iconst (v := 2) X.x X.b dL_texts_269 ki_2 ?_
  refine lv_icmp_ne (tgt := 341) X.x X.b dL_texts_270 (by decide) (fun h => absurd h (by decide)) (fun _ => ?_)
  refine lv_aload_n X.x X.b dL_texts_273 rfl (lv_at hl 0 rfl) ?_
  refine lv_iconst (v := 0) X.x X.b dL_texts_274 ki_0 ?_
  refine lv_iconst (v := 2) X.x X.b dL_texts_275 ki_2 ?_
  refine o_call (wr := []) Y Z hl hw (C_part l hT Δ 0 2 fc_196) wd_584 wd_585 wd_586 wd_19 wd_587 ok_X6_part rfl rfl (rest := []) rfl (Nat.le_of_ble_eq_true rfl) ⟨Nat.le_of_ble_eq_true rfl, Nat.le_of_ble_eq_true rfl⟩ ⟨Nat.le_of_ble_eq_true rfl, Nat.le_of_ble_eq_true rfl⟩ (c1 := 973) (s1 := 8517) rfl rfl dL_texts_276 (fun ws H locs hw Z => ?_)
  refine lv_bipush (v := 7) X.x X.b dL_texts_279 kb_7 ?_
  refine lv_icmp_ne (tgt := 341) X.x X.b dL_texts_281 (by decide) (fun h => absurd h (by decide)) (fun _ => ?_)
  refine lv_aload_n X.x X.b dL_texts_284 rfl (lv_at hl 0 rfl) ?_
  refine lv_iconst (v := 1) X.x X.b dL_texts_285 ki_1 ?_
  refine lv_iconst (v := 0) X.x X.b dL_texts_286 ki_0 ?_
  refine o_call (wr := []) Y Z hl hw (C_part l hT Δ 1 0 fc_197) wd_584 wd_585 wd_586 wd_19 wd_587 ok_X6_part rfl rfl (rest := []) rfl (Nat.le_of_ble_eq_true rfl) ⟨Nat.le_of_ble_eq_true rfl, Nat.le_of_ble_eq_true rfl⟩ ⟨Nat.le_of_ble_eq_true rfl, Nat.le_of_ble_eq_true rfl⟩ (c1 := 975) (s1 := 8529) rfl rfl dL_texts_287 (fun ws H locs hw Z => ?_)
  refine lv_bipush (v := 32) X.x X.b dL_texts_290 kb_32 ?_
  refine lv_icmp_ne (tgt := 341) X.x X.b dL_texts_292 (by decide) (fun h => absurd h (by decide)) (fun _ => ?_)
  refine lv_aload_n X.x X.b dL_texts_295 rfl (lv_at hl 0 rfl) ?_
  refine lv_iconst (v := 1) X.x X.b dL_texts_296 ki_1 ?_
  refine lv_iconst (v := 1) X.x X.b dL_texts_297 ki_1 ?_
  refine o_call (wr := []) Y Z hl hw (C_part l hT Δ 1 1 fc_198) wd_584 wd_585 wd_586 wd_19 wd_587 ok_X6_part rfl rfl (rest := []) rfl (Nat.le_of_ble_eq_true rfl) ⟨Nat.le_of_ble_eq_true rfl, Nat.le_of_ble_eq_true rfl⟩ ⟨Nat.le_of_ble_eq_true rfl, Nat.le_of_ble_eq_true rfl⟩ (c1 := 977) (s1 := 8541) rfl rfl dL_texts_298 (fun ws H locs hw Z => ?_)
  refine lv_iconst (v := (-1)) X.x X.b dL_texts_301 ki_m1 ?_
  refine lv_icmp_ne (tgt := 341) X.x X.b dL_texts_302 (by decide) (fun h => absurd h (by decide)) (fun _ => ?_)
  refine lv_aload_n X.x X.b dL_texts_305 rfl (lv_at hl 0 rfl) ?_
  refine lv_iconst (v := 1) X.x X.b dL_texts_306 ki_1 ?_
  refine lv_iconst (v := 2) X.x X.b dL_texts_307 ki_2 ?_
  refine o_call (wr := []) Y Z hl hw (C_part l hT Δ 1 2 fc_199) wd_584 wd_585 wd_586 wd_19 wd_587 ok_X6_part rfl rfl (rest := []) rfl (Nat.le_of_ble_eq_true rfl) ⟨Nat.le_of_ble_eq_true rfl, Nat.le_of_ble_eq_true rfl⟩ ⟨Nat.le_of_ble_eq_true rfl, Nat.le_of_ble_eq_true rfl⟩ (c1 := 979) (s1 := 8553) rfl rfl dL_texts_308 (fun ws H locs hw Z => ?_)
  refine lv_bipush (v := 10) X.x X.b dL_texts_311 kb_10 ?_
  refine lv_icmp_ne (tgt := 341) X.x X.b dL_texts_313 (by decide) (fun h => absurd h (by decide)) (fun _ => ?_)
  refine lv_aload_n X.x X.b dL_texts_316 rfl (lv_at hl 0 rfl) ?_
  refine lv_iconst (v := 2) X.x X.b dL_texts_317 ki_2 ?_
  refine lv_iconst (v := 1) X.x X.b dL_texts_318 ki_1 ?_
  refine o_call (wr := []) Y Z hl hw (C_part l hT Δ 2 1 fc_200) wd_584 wd_585 wd_586 wd_19 wd_587 ok_X6_part rfl rfl (rest := []) rfl (Nat.le_of_ble_eq_true rfl) ⟨Nat.le_of_ble_eq_true rfl, Nat.le_of_ble_eq_true rfl⟩ ⟨Nat.le_of_ble_eq_true rfl, Nat.le_of_ble_eq_true rfl⟩ (c1 := 981) (s1 := 8565) rfl rfl dL_texts_319 (fun ws H locs hw Z => ?_)
  refine lv_iconst (v := 1) X.x X.b dL_texts_322 ki_1 ?_
  refine lv_icmp_ne (tgt := 341) X.x X.b dL_texts_323 (by decide) (fun h => absurd h (by decide)) (fun _ => ?_)
  refine lv_aload_n X.x X.b dL_texts_326 rfl (lv_at hl 0 rfl) ?_
  refine o_call (wr := []) Y Z hl hw (C_undo l hT Δ  fc_201) wd_193 wd_194 wd_195 wd_19 wd_196 ok_X6_undo rfl rfl (rest := []) rfl (Nat.le_of_ble_eq_true rfl) ⟨Nat.le_of_ble_eq_true rfl, Nat.le_of_ble_eq_true rfl⟩ ⟨Nat.le_of_ble_eq_true rfl, Nat.le_of_ble_eq_true rfl⟩ (c1 := 982) (s1 := 8571) rfl rfl dL_texts_327 (fun ws H locs hw Z => ?_)
  refine lv_if_ne (tgt := 341) X.x X.b dL_texts_330 (by decide) (fun h => absurd h (by decide)) (fun _ => ?_)
  refine lv_aload_n X.x X.b dL_texts_333 rfl (lv_at hl 0 rfl) ?_
  refine lv_iconst (v := 0) X.x X.b dL_texts_334 ki_0 ?_
  refine o_call (wr := []) Y Z hl hw (C_count l hT Δ 0 fc_202) wd_290 wd_291 wd_292 wd_19 wd_293 ok_X6_count rfl rfl (rest := []) rfl (Nat.le_of_ble_eq_true rfl) ⟨Nat.le_of_ble_eq_true rfl, Nat.le_of_ble_eq_true rfl⟩ ⟨Nat.le_of_ble_eq_true rfl, Nat.le_of_ble_eq_true rfl⟩ (c1 := 983) (s1 := 8577) rfl rfl dL_texts_335 (fun ws H locs hw Z => ?_)
  refine lv_if_eq (tgt := 343) X.x X.b dL_texts_338 (by decide) (fun _ => ?_) (fun h => absurd h (by decide))
  refine lv_iconst (v := 0) X.x X.b dL_texts_343 ki_0 ?_
  refine lv_istore_n (lv' := [(1, .int 0), (0, .ref a)]) X.x X.b dL_texts_344 rfl hl (Nat.le_of_ble_eq_true rfl) rfl (fun ls hl => ?_)
  rw [show T_65 = U_t 0 from sb_ok (by decide +kernel)] at hw
  exact SG_texts_loop l hT Δ Y 60 0 rfl Z hl hw
set_option maxRecDepth 100000 in
set_option maxHeartbeats 4000000 in
theorem M_texts (l : Launch) (hT : l.stackTraces = false) (Δ : zE) : zMX l Δ yL_texts (.code yL_texts cL_texts 2 (some .boolean)) 11 216 1073 9215 [] [] (fun rv w => rv = some (.int 1) ∧ w = []) (fun _ _ => False) := by
  refine x_start hT (by decide +kernel) (Nat.le_of_ble_eq_true rfl) ?_
  intro p e s m args below meth c A ls Y htab Z hl
  have X := Y.1
  have hl : lv_has ls 2 [] := hl
  refine lv_lconst (v := 0) X.x X.b dL_texts_0 kl_0 ?_
  refine lv_lconst (v := 0) X.x X.b dL_texts_1 kl_0 ?_
  refine o_stat (wc := []) (wr := []) Y Z hl (M_errorOf0 l hT Δ fc_112 fc_113 fc_114 fc_115 (by decide) (r := 0) (by decide)) wd_734 wd_735 wd_18 wd_736 ok_L_errorOf rfl (rest := []) rfl (Nat.le_of_ble_eq_true rfl) ⟨Nat.le_of_ble_eq_true rfl, Nat.le_of_ble_eq_true rfl⟩ ⟨Nat.le_of_ble_eq_true rfl, Nat.le_of_ble_eq_true rfl⟩ (c1 := 51) (s1 := 447) rfl rfl dL_texts_2 (fun rv ws H locs hP Z => ?_)
  obtain ⟨rfl, rfl⟩ := hP
  refine W.eq (g2 := F0 m 5 ls [.int 0]) rfl ?_
  refine lv_if_ne (tgt := 101) X.x X.b dL_texts_5 (by decide) (fun h => absurd h (by decide)) (fun _ => ?_)
  refine lv_ldc2 (v := 12592) X.x X.b X.own (X.ts _ wd_746) dL_texts_8 ?_
  refine lv_lconst (v := 0) X.x X.b dL_texts_11 kl_0 ?_
  refine o_stat (wc := []) (wr := []) Y Z hl (M_errorOf0 l hT Δ fc_116 fc_117 fc_118 fc_119 (by decide) (r := 2) (by decide)) wd_734 wd_735 wd_18 wd_736 ok_L_errorOf rfl (rest := []) rfl (Nat.le_of_ble_eq_true rfl) ⟨Nat.le_of_ble_eq_true rfl, Nat.le_of_ble_eq_true rfl⟩ ⟨Nat.le_of_ble_eq_true rfl, Nat.le_of_ble_eq_true rfl⟩ (c1 := 102) (s1 := 894) rfl rfl dL_texts_12 (fun rv ws H locs hP Z => ?_)
  obtain ⟨rfl, rfl⟩ := hP
  refine W.eq (g2 := F0 m 15 ls [.int 2]) rfl ?_
  refine lv_iconst (v := 2) X.x X.b dL_texts_15 ki_2 ?_
  refine lv_icmp_ne (tgt := 101) X.x X.b dL_texts_16 (by decide) (fun h => absurd h (by decide)) (fun _ => ?_)
  refine lv_ldc2 (v := 3154225) X.x X.b X.own (X.ts _ wd_747) dL_texts_19 ?_
  refine lv_lconst (v := 0) X.x X.b dL_texts_22 kl_0 ?_
  refine o_stat (wc := []) (wr := []) Y Z hl (M_errorOf0 l hT Δ fc_120 fc_121 fc_122 fc_123 (by decide) (r := 4) (by decide)) wd_734 wd_735 wd_18 wd_736 ok_L_errorOf rfl (rest := []) rfl (Nat.le_of_ble_eq_true rfl) ⟨Nat.le_of_ble_eq_true rfl, Nat.le_of_ble_eq_true rfl⟩ ⟨Nat.le_of_ble_eq_true rfl, Nat.le_of_ble_eq_true rfl⟩ (c1 := 153) (s1 := 1341) rfl rfl dL_texts_23 (fun rv ws H locs hP Z => ?_)
  obtain ⟨rfl, rfl⟩ := hP
  refine W.eq (g2 := F0 m 26 ls [.int 4]) rfl ?_
  refine lv_iconst (v := 4) X.x X.b dL_texts_26 ki_4 ?_
  refine lv_icmp_ne (tgt := 101) X.x X.b dL_texts_27 (by decide) (fun h => absurd h (by decide)) (fun _ => ?_)
  refine lv_ldc2 (v := 3154224) X.x X.b X.own (X.ts _ wd_748) dL_texts_30 ?_
  refine lv_lconst (v := 0) X.x X.b dL_texts_33 kl_0 ?_
  refine o_stat (wc := []) (wr := []) Y Z hl (M_errorOf1 l hT Δ fc_124 fc_125 fc_126 fc_127 (by decide) fc_128 fc_129 (r := 7) (by decide)) wd_734 wd_735 wd_18 wd_736 ok_L_errorOf rfl (rest := []) rfl (Nat.le_of_ble_eq_true rfl) ⟨Nat.le_of_ble_eq_true rfl, Nat.le_of_ble_eq_true rfl⟩ ⟨Nat.le_of_ble_eq_true rfl, Nat.le_of_ble_eq_true rfl⟩ (c1 := 204) (s1 := 1788) rfl rfl dL_texts_34 (fun rv ws H locs hP Z => ?_)
  obtain ⟨rfl, rfl⟩ := hP
  refine W.eq (g2 := F0 m 37 ls [.int 7]) rfl ?_
  refine lv_bipush (v := 7) X.x X.b dL_texts_37 kb_7 ?_
  refine lv_icmp_ne (tgt := 101) X.x X.b dL_texts_39 (by decide) (fun h => absurd h (by decide)) (fun _ => ?_)
  refine lv_ldc2 (v := 52987568420656) X.x X.b X.own (X.ts _ wd_749) dL_texts_42 ?_
  refine lv_lconst (v := 0) X.x X.b dL_texts_45 kl_0 ?_
  refine o_stat (wc := []) (wr := []) Y Z hl (M_errorOf0 l hT Δ fc_130 fc_131 fc_132 fc_133 (by decide) (r := 10) (by decide)) wd_734 wd_735 wd_18 wd_736 ok_L_errorOf rfl (rest := []) rfl (Nat.le_of_ble_eq_true rfl) ⟨Nat.le_of_ble_eq_true rfl, Nat.le_of_ble_eq_true rfl⟩ ⟨Nat.le_of_ble_eq_true rfl, Nat.le_of_ble_eq_true rfl⟩ (c1 := 255) (s1 := 2235) rfl rfl dL_texts_46 (fun rv ws H locs hP Z => ?_)
  obtain ⟨rfl, rfl⟩ := hP
  refine W.eq (g2 := F0 m 49 ls [.int 10]) rfl ?_
  refine lv_bipush (v := 10) X.x X.b dL_texts_49 kb_10 ?_
  refine lv_icmp_ne (tgt := 101) X.x X.b dL_texts_51 (by decide) (fun h => absurd h (by decide)) (fun _ => ?_)
  refine lv_ldc2 (v := 12407) X.x X.b X.own (X.ts _ wd_750) dL_texts_54 ?_
  refine lv_lconst (v := 0) X.x X.b dL_texts_57 kl_0 ?_
  refine o_stat (wc := []) (wr := []) Y Z hl (M_errorOf0 l hT Δ fc_134 fc_135 fc_136 fc_137 (by decide) (r := 4) (by decide)) wd_734 wd_735 wd_18 wd_736 ok_L_errorOf rfl (rest := []) rfl (Nat.le_of_ble_eq_true rfl) ⟨Nat.le_of_ble_eq_true rfl, Nat.le_of_ble_eq_true rfl⟩ ⟨Nat.le_of_ble_eq_true rfl, Nat.le_of_ble_eq_true rfl⟩ (c1 := 306) (s1 := 2682) rfl rfl dL_texts_58 (fun rv ws H locs hP Z => ?_)
  obtain ⟨rfl, rfl⟩ := hP
  refine W.eq (g2 := F0 m 61 ls [.int 4]) rfl ?_
  refine lv_iconst (v := 4) X.x X.b dL_texts_61 ki_4 ?_
  refine lv_icmp_ne (tgt := 101) X.x X.b dL_texts_62 (by decide) (fun h => absurd h (by decide)) (fun _ => ?_)
  refine lv_ldc2 (v := 208158142512) X.x X.b X.own (X.ts _ wd_751) dL_texts_65 ?_
  refine lv_lconst (v := 0) X.x X.b dL_texts_68 kl_0 ?_
  refine o_stat (wc := []) (wr := []) Y Z hl (M_errorOf0 l hT Δ fc_138 fc_139 fc_140 fc_141 (by decide) (r := 8) (by decide)) wd_734 wd_735 wd_18 wd_736 ok_L_errorOf rfl (rest := []) rfl (Nat.le_of_ble_eq_true rfl) ⟨Nat.le_of_ble_eq_true rfl, Nat.le_of_ble_eq_true rfl⟩ ⟨Nat.le_of_ble_eq_true rfl, Nat.le_of_ble_eq_true rfl⟩ (c1 := 357) (s1 := 3129) rfl rfl dL_texts_69 (fun rv ws H locs hP Z => ?_)
  obtain ⟨rfl, rfl⟩ := hP
  refine W.eq (g2 := F0 m 72 ls [.int 8]) rfl ?_
  refine lv_bipush (v := 8) X.x X.b dL_texts_72 kb_8 ?_
  refine lv_icmp_ne (tgt := 101) X.x X.b dL_texts_74 (by decide) (fun h => absurd h (by decide)) (fun _ => ?_)
  refine lv_ldc2 (v := 813118753) X.x X.b X.own (X.ts _ wd_752) dL_texts_77 ?_
  refine lv_lconst (v := 0) X.x X.b dL_texts_80 kl_0 ?_
  refine o_stat (wc := []) (wr := []) Y Z hl (M_errorOf0 l hT Δ fc_142 fc_143 fc_144 fc_145 (by decide) (r := 6) (by decide)) wd_734 wd_735 wd_18 wd_736 ok_L_errorOf rfl (rest := []) rfl (Nat.le_of_ble_eq_true rfl) ⟨Nat.le_of_ble_eq_true rfl, Nat.le_of_ble_eq_true rfl⟩ ⟨Nat.le_of_ble_eq_true rfl, Nat.le_of_ble_eq_true rfl⟩ (c1 := 408) (s1 := 3576) rfl rfl dL_texts_81 (fun rv ws H locs hP Z => ?_)
  obtain ⟨rfl, rfl⟩ := hP
  refine W.eq (g2 := F0 m 84 ls [.int 6]) rfl ?_
  refine lv_bipush (v := 6) X.x X.b dL_texts_84 kb_6 ?_
  refine lv_icmp_ne (tgt := 101) X.x X.b dL_texts_86 (by decide) (fun h => absurd h (by decide)) (fun _ => ?_)
  refine lv_ldc2 (v := 3488560) X.x X.b X.own (X.ts _ wd_753) dL_texts_89 ?_
  refine lv_lconst (v := 0) X.x X.b dL_texts_92 kl_0 ?_
  refine o_stat (wc := []) (wr := []) Y Z hl (M_errorOf1 l hT Δ fc_146 fc_147 fc_148 fc_149 (by decide) fc_150 fc_151 (r := 7) (by decide)) wd_734 wd_735 wd_18 wd_736 ok_L_errorOf rfl (rest := []) rfl (Nat.le_of_ble_eq_true rfl) ⟨Nat.le_of_ble_eq_true rfl, Nat.le_of_ble_eq_true rfl⟩ ⟨Nat.le_of_ble_eq_true rfl, Nat.le_of_ble_eq_true rfl⟩ (c1 := 459) (s1 := 4023) rfl rfl dL_texts_93 (fun rv ws H locs hP Z => ?_)
  obtain ⟨rfl, rfl⟩ := hP
  refine W.eq (g2 := F0 m 96 ls [.int 7]) rfl ?_
  refine lv_bipush (v := 7) X.x X.b dL_texts_96 kb_7 ?_
  refine lv_icmp_eq (tgt := 103) X.x X.b dL_texts_98 (by decide) (fun _ => ?_) (fun h => absurd h (by decide))
  refine lv_ldc2 (v := 59) X.x X.b X.own (X.ts _ wd_754) dL_texts_103 ?_
  refine lv_lconst (v := 0) X.x X.b dL_texts_106 kl_0 ?_
  refine o_stat (wc := []) (wr := []) Y Z hl (M_errorOf0 l hT Δ fc_152 fc_153 fc_154 fc_155 (by decide) (r := 0) (by decide)) wd_734 wd_735 wd_18 wd_736 ok_L_errorOf rfl (rest := []) rfl (Nat.le_of_ble_eq_true rfl) ⟨Nat.le_of_ble_eq_true rfl, Nat.le_of_ble_eq_true rfl⟩ ⟨Nat.le_of_ble_eq_true rfl, Nat.le_of_ble_eq_true rfl⟩ (c1 := 510) (s1 := 4470) rfl rfl dL_texts_107 (fun rv ws H locs hP Z => ?_)
  obtain ⟨rfl, rfl⟩ := hP
  refine W.eq (g2 := F0 m 110 ls [.int 0]) rfl ?_
  refine lv_if_ne (tgt := 205) X.x X.b dL_texts_110 (by decide) (fun h => absurd h (by decide)) (fun _ => ?_)
  refine lv_ldc2 (v := 12347) X.x X.b X.own (X.ts _ wd_755) dL_texts_113 ?_
  refine lv_lconst (v := 0) X.x X.b dL_texts_116 kl_0 ?_
  refine o_stat (wc := []) (wr := []) Y Z hl (M_errorOf0 l hT Δ fc_156 fc_157 fc_158 fc_159 (by decide) (r := 4) (by decide)) wd_734 wd_735 wd_18 wd_736 ok_L_errorOf rfl (rest := []) rfl (Nat.le_of_ble_eq_true rfl) ⟨Nat.le_of_ble_eq_true rfl, Nat.le_of_ble_eq_true rfl⟩ ⟨Nat.le_of_ble_eq_true rfl, Nat.le_of_ble_eq_true rfl⟩ (c1 := 561) (s1 := 4917) rfl rfl dL_texts_117 (fun rv ws H locs hP Z => ?_)
  obtain ⟨rfl, rfl⟩ := hP
  refine W.eq (g2 := F0 m 120 ls [.int 4]) rfl ?_
  refine lv_iconst (v := 4) X.x X.b dL_texts_120 ki_4 ?_
  refine lv_icmp_ne (tgt := 205) X.x X.b dL_texts_121 (by decide) (fun h => absurd h (by decide)) (fun _ => ?_)
  refine lv_ldc2 (v := 12336) X.x X.b X.own (X.ts _ wd_756) dL_texts_124 ?_
  refine lv_lconst (v := 0) X.x X.b dL_texts_127 kl_0 ?_
  refine o_stat (wc := []) (wr := []) Y Z hl (M_errorOf0 l hT Δ fc_160 fc_161 fc_162 fc_163 (by decide) (r := 2) (by decide)) wd_734 wd_735 wd_18 wd_736 ok_L_errorOf rfl (rest := []) rfl (Nat.le_of_ble_eq_true rfl) ⟨Nat.le_of_ble_eq_true rfl, Nat.le_of_ble_eq_true rfl⟩ ⟨Nat.le_of_ble_eq_true rfl, Nat.le_of_ble_eq_true rfl⟩ (c1 := 612) (s1 := 5364) rfl rfl dL_texts_128 (fun rv ws H locs hP Z => ?_)
  obtain ⟨rfl, rfl⟩ := hP
  refine W.eq (g2 := F0 m 131 ls [.int 2]) rfl ?_
  refine lv_iconst (v := 2) X.x X.b dL_texts_131 ki_2 ?_
  refine lv_icmp_ne (tgt := 205) X.x X.b dL_texts_132 (by decide) (fun h => absurd h (by decide)) (fun _ => ?_)
  refine lv_ldc2 (v := 54) X.x X.b X.own (X.ts _ wd_757) dL_texts_135 ?_
  refine lv_lconst (v := 0) X.x X.b dL_texts_138 kl_0 ?_
  refine o_stat (wc := []) (wr := []) Y Z hl (M_errorOf0 l hT Δ fc_164 fc_165 fc_166 fc_167 (by decide) (r := 0) (by decide)) wd_734 wd_735 wd_18 wd_736 ok_L_errorOf rfl (rest := []) rfl (Nat.le_of_ble_eq_true rfl) ⟨Nat.le_of_ble_eq_true rfl, Nat.le_of_ble_eq_true rfl⟩ ⟨Nat.le_of_ble_eq_true rfl, Nat.le_of_ble_eq_true rfl⟩ (c1 := 663) (s1 := 5811) rfl rfl dL_texts_139 (fun rv ws H locs hP Z => ?_)
  obtain ⟨rfl, rfl⟩ := hP
  refine W.eq (g2 := F0 m 142 ls [.int 0]) rfl ?_
  refine lv_if_ne (tgt := 205) X.x X.b dL_texts_142 (by decide) (fun h => absurd h (by decide)) (fun _ => ?_)
  refine lv_ldc2 (v := 12321) X.x X.b X.own (X.ts _ wd_758) dL_texts_145 ?_
  refine lv_lconst (v := 0) X.x X.b dL_texts_148 kl_0 ?_
  refine o_stat (wc := []) (wr := []) Y Z hl (M_errorOf0 l hT Δ fc_168 fc_169 fc_170 fc_171 (by decide) (r := 4) (by decide)) wd_734 wd_735 wd_18 wd_736 ok_L_errorOf rfl (rest := []) rfl (Nat.le_of_ble_eq_true rfl) ⟨Nat.le_of_ble_eq_true rfl, Nat.le_of_ble_eq_true rfl⟩ ⟨Nat.le_of_ble_eq_true rfl, Nat.le_of_ble_eq_true rfl⟩ (c1 := 714) (s1 := 6258) rfl rfl dL_texts_149 (fun rv ws H locs hP Z => ?_)
  obtain ⟨rfl, rfl⟩ := hP
  refine W.eq (g2 := F0 m 152 ls [.int 4]) rfl ?_
  refine lv_iconst (v := 4) X.x X.b dL_texts_152 ki_4 ?_
  refine lv_icmp_ne (tgt := 205) X.x X.b dL_texts_153 (by decide) (fun h => absurd h (by decide)) (fun _ => ?_)
  refine lv_ldc2 (v := 3472611983179981109) X.x X.b X.own (X.ts _ wd_759) dL_texts_156 ?_
  refine lv_ldc2 (v := 7813433) X.x X.b X.own (X.ts _ wd_760) dL_texts_159 ?_
  refine o_stat (wc := []) (wr := []) Y Z hl (M_errorOf1 l hT Δ fc_172 fc_173 fc_174 fc_175 (by decide) fc_176 fc_177 (r := 23) (by decide)) wd_734 wd_735 wd_18 wd_736 ok_L_errorOf rfl (rest := []) rfl (Nat.le_of_ble_eq_true rfl) ⟨Nat.le_of_ble_eq_true rfl, Nat.le_of_ble_eq_true rfl⟩ ⟨Nat.le_of_ble_eq_true rfl, Nat.le_of_ble_eq_true rfl⟩ (c1 := 765) (s1 := 6705) rfl rfl dL_texts_162 (fun rv ws H locs hP Z => ?_)
  obtain ⟨rfl, rfl⟩ := hP
  refine W.eq (g2 := F0 m 165 ls [.int 23]) rfl ?_
  refine lv_bipush (v := 23) X.x X.b dL_texts_165 kb_23 ?_
  refine lv_icmp_ne (tgt := 205) X.x X.b dL_texts_167 (by decide) (fun h => absurd h (by decide)) (fun _ => ?_)
  refine lv_ldc2 (v := 208158669115) X.x X.b X.own (X.ts _ wd_761) dL_texts_170 ?_
  refine lv_lconst (v := 0) X.x X.b dL_texts_173 kl_0 ?_
  refine o_stat (wc := []) (wr := []) Y Z hl (M_errorOf0 l hT Δ fc_178 fc_179 fc_180 fc_181 (by decide) (r := 10) (by decide)) wd_734 wd_735 wd_18 wd_736 ok_L_errorOf rfl (rest := []) rfl (Nat.le_of_ble_eq_true rfl) ⟨Nat.le_of_ble_eq_true rfl, Nat.le_of_ble_eq_true rfl⟩ ⟨Nat.le_of_ble_eq_true rfl, Nat.le_of_ble_eq_true rfl⟩ (c1 := 816) (s1 := 7152) rfl rfl dL_texts_174 (fun rv ws H locs hP Z => ?_)
  obtain ⟨rfl, rfl⟩ := hP
  refine W.eq (g2 := F0 m 177 ls [.int 10]) rfl ?_
  refine lv_bipush (v := 10) X.x X.b dL_texts_177 kb_10 ?_
  refine lv_icmp_ne (tgt := 205) X.x X.b dL_texts_179 (by decide) (fun h => absurd h (by decide)) (fun _ => ?_)
  refine lv_ldc2 (v := 807481392) X.x X.b X.own (X.ts _ wd_762) dL_texts_182 ?_
  refine lv_lconst (v := 0) X.x X.b dL_texts_185 kl_0 ?_
  refine o_stat (wc := []) (wr := []) Y Z hl (M_errorOf0 l hT Δ fc_182 fc_183 fc_184 fc_185 (by decide) (r := 6) (by decide)) wd_734 wd_735 wd_18 wd_736 ok_L_errorOf rfl (rest := []) rfl (Nat.le_of_ble_eq_true rfl) ⟨Nat.le_of_ble_eq_true rfl, Nat.le_of_ble_eq_true rfl⟩ ⟨Nat.le_of_ble_eq_true rfl, Nat.le_of_ble_eq_true rfl⟩ (c1 := 867) (s1 := 7599) rfl rfl dL_texts_186 (fun rv ws H locs hP Z => ?_)
  obtain ⟨rfl, rfl⟩ := hP
  refine W.eq (g2 := F0 m 189 ls [.int 6]) rfl ?_
  refine lv_bipush (v := 6) X.x X.b dL_texts_189 kb_6 ?_
  refine lv_icmp_ne (tgt := 205) X.x X.b dL_texts_191 (by decide) (fun h => absurd h (by decide)) (fun _ => ?_)
  refine lv_ldc2 (v := 3176311) X.x X.b X.own (X.ts _ wd_763) dL_texts_194 ?_
  refine lv_lconst (v := 0) X.x X.b dL_texts_197 kl_0 ?_
  refine o_stat (wc := []) (wr := []) Y Z hl (M_errorOf0 l hT Δ fc_186 fc_187 fc_188 fc_189 (by decide) (r := 4) (by decide)) wd_734 wd_735 wd_18 wd_736 ok_L_errorOf rfl (rest := []) rfl (Nat.le_of_ble_eq_true rfl) ⟨Nat.le_of_ble_eq_true rfl, Nat.le_of_ble_eq_true rfl⟩ ⟨Nat.le_of_ble_eq_true rfl, Nat.le_of_ble_eq_true rfl⟩ (c1 := 918) (s1 := 8046) rfl rfl dL_texts_198 (fun rv ws H locs hP Z => ?_)
  obtain ⟨rfl, rfl⟩ := hP
  refine W.eq (g2 := F0 m 201 ls [.int 4]) rfl ?_
  refine lv_iconst (v := 4) X.x X.b dL_texts_201 ki_4 ?_
  refine lv_icmp_eq (tgt := 207) X.x X.b dL_texts_202 (by decide) (fun _ => ?_) (fun h => absurd h (by decide))
  refine o_new (rest := []) Y Z hl wd_35 wd_36 wd_19 wd_37 wd_38 wd_39 ok_X6_init (Nat.le_of_ble_eq_true rfl) ⟨Nat.le_of_ble_eq_true rfl, Nat.le_of_ble_eq_true rfl⟩ ⟨Nat.le_of_ble_eq_true rfl, Nat.le_of_ble_eq_true rfl⟩ (c1 := 937) (s1 := 8252) rfl rfl dL_texts_207 dL_texts_210 dL_texts_211 (fun a ws H locs hw Z => ?_)
  rw [T_new] at hw
  refine lv_astore_n (lv' := [(0, .ref a)]) X.x X.b dL_texts_214 rfl hl (Nat.le_of_ble_eq_true rfl) rfl (fun ls hl => ?_)
  refine lv_aload_n X.x X.b dL_texts_215 rfl (lv_at hl 0 rfl) ?_
  refine lv_ldc2 (v := 3472874763288263477) X.x X.b X.own (X.ts _ wd_764) dL_texts_216 ?_
  refine o_stat (wr := []) Y Z hl (M_types l hT Δ fc_190 a ws hw) wd_737 wd_738 wd_18 wd_739 ok_L_types rfl (rest := []) rfl (Nat.le_of_ble_eq_true rfl) ⟨Nat.le_of_ble_eq_true rfl, Nat.le_of_ble_eq_true rfl⟩ ⟨Nat.le_of_ble_eq_true rfl, Nat.le_of_ble_eq_true rfl⟩ (c1 := 945) (s1 := 8300) rfl rfl dL_texts_219 (fun rv ws H locs hP Z => ?_)
  obtain ⟨rfl, hw⟩ := hP
  refine W.eq (g2 := F0 m 222 ls [.int 1]) rfl ?_
  refine lv_if_eq (tgt := 341) X.x X.b dL_texts_222 (by decide) (fun h => absurd h (by decide)) (fun _ => ?_)
  exact SG_texts_1 l hT Δ Y Z hl hw
