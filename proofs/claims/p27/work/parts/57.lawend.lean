/-! THE LAW: undo, the end -/
theorem t_undo0 {b : zOb} (h : b.2.1 = []) : s_told b 10 0 0 0 = some (-12, b) := by
  refine s_refuse (E := "java/lang/IllegalStateException") ?_ (by decide +kernel)
  rw [sc_10]
  unfold s_undo
  rw [h]
theorem s_undo1 {b : zOb} {u : tSC} {hs : List tSC} (h : b.2.1 = u :: hs) : s_undo b = some (.inr (nI hs.length), (u, hs, b.2.2)) := by
  unfold s_undo
  rw [h]
set_option maxRecDepth 100000 in
set_option maxHeartbeats 4000000 in
theorem law_undo {p : Program} {l : Launch} {e : Env} {s : State} {m : MethodId} {below : List Frame} {meth : Method} {c : Code} {Q : State → Prop} {Δ : zE} {sb : Nat} (hT : l.stackTraces = false) (Y : zY Δ p l s m #[Value.ref sb] meth c ⟨"SerialRecapsLaw", meth.name, ""⟩ code 11 (some .boolean) (fun q => s.heap.size ≤ q)) {a aw acts : Nat} {f : Nat → Int64} (ha : acts < 64) (hend : ∀ (H : Heap) (ls : Array Slot), W p l e room_1 s m #[Value.ref sb] below meth c H [] 641046 7178331 Q (F0 m 456 ls [.int 1])) : ∀ (r j : Nat) (b : zOb) (cells slots : Nat) (H : Heap) (locs : List Loc) (ls : Array Slot) (ws : va_W), b.2.1.length = r → j + r = min acts 6 → cells + 1000 * r ≤ 300000 → slots + 6000 * r ≤ 3000000 → zI b.1 → pseen b.1 = f (acts - j) → (∀ i u, b.2.1[i]? = some u → zI u ∧ pseen u = f (acts - j - 1 - i)) → wOb Δ a b ws → zW Δ (fun q => s.heap.size ≤ q) s.heap (ws ++ [(aw, .inl (Δ.2.2.2.1, 64, .inr (.inl f)))]) H locs → lv_has ls 11 [(4, .int (nI j)), (3, .int (nI acts)), (2, .ref aw), (1, .ref a), (0, .ref sb)] → W p l e room_1 s m #[Value.ref sb] below meth c H locs cells slots Q (F0 m 357 ls []) := by
  have X := Y.1
  intro r
  induction r with
  | zero =>
    intro j b cells slots H locs ls ws hr hj hc hs hI hf hh hw Z hl
    have hb0 : b.2.1 = [] := List.length_eq_zero_iff.mp hr
    obtain ⟨n, hn, hsz, -⟩ := id hI
    have hsz : (tF b.1).2.2.1 = nI n := hsz
    refine lv_aload_n X.x X.b dL_law_357 rfl (lv_at hl 3 rfl) ?_
    refine lv_bipush (v := 6) X.x X.b dL_law_358 kb_6 ?_
    refine o_call (wr := [(aw, .inl (Δ.2.2.2.1, 64, .inr (.inl f)))]) Y Z hl hw (C_count l hT Δ 6 (c_count6 _)) wd_290 wd_291 wd_292 wd_19 wd_293 ok_X6_count rfl rfl (rest := []) rfl (Nat.le_of_ble_eq_true rfl) ⟨Nat.le_of_ble_eq_true rfl, Nat.le_of_ble_eq_true rfl⟩ ⟨by show cells + 1 ≤ 641046; omega, by show slots + 6 ≤ 7178331; omega⟩ (c1 := (cells + 1)) (s1 := (slots + 6)) (by omega) (by omega) dL_law_360 (fun ws H locs hw Z => ?_)
    rw [hr]
    refine lv_if_le (tgt := 413) X.x X.b dL_law_363 (by decide) (fun _ => ?_) (fun g => absurd (by decide) g)
    refine lv_aload_n X.x X.b dL_law_413 rfl (lv_at hl 3 rfl) ?_
    refine lv_bipush (v := 10) X.x X.b dL_law_414 kb_10 ?_
    refine lv_iconst (v := 0) X.x X.b dL_law_416 ki_0 ?_
    refine lv_iconst (v := 0) X.x X.b dL_law_417 ki_0 ?_
    refine lv_iconst (v := 0) X.x X.b dL_law_418 ki_0 ?_
    refine o_statX (wr := [(aw, .inl (Δ.2.2.2.1, 64, .inr (.inl f)))]) Y Z hl (M_told l hT Δ 10 0 0 0 (t_undo0 hb0) a ws hw) wd_349 wd_350 wd_18 wd_351 ok_L_told rfl (rest := []) rfl (Nat.le_of_ble_eq_true rfl) ⟨Nat.le_of_ble_eq_true rfl, Nat.le_of_ble_eq_true rfl⟩ ⟨by show (cells + 1) + 15 ≤ 641046; omega, by show (slots + 6) + 139 ≤ 7178331; omega⟩ (c1 := (cells + 16)) (s1 := (slots + 145)) (by omega) (by omega) dL_law_419 (fun rv ws H locs hP Z => ?_)
    obtain ⟨rfl, hw⟩ := hP
    refine W.eq (g2 := F0 m 422 ls [.int (-12)]) rfl ?_
    refine lv_bipush (v := (-12)) X.x X.b dL_law_422 kb_m12 ?_
    refine lv_icmp_ne (tgt := 455) X.x X.b dL_law_424 (by decide) (fun h => absurd h (by decide)) (fun _ => ?_)
    refine lv_aload_n X.x X.b dL_law_427 rfl (lv_at hl 3 rfl) ?_
    refine o_stat (wr := [(aw, .inl (Δ.2.2.2.1, 64, .inr (.inl f)))]) Y Z hl (M_seen l hT Δ hn hsz a ws hw) wd_766 wd_767 wd_18 wd_768 ok_L_seen rfl (rest := []) rfl (Nat.le_of_ble_eq_true rfl) ⟨Nat.le_of_ble_eq_true rfl, Nat.le_of_ble_eq_true rfl⟩ ⟨by show (cells + 16) + 900 ≤ 641046; omega, by show (slots + 145) + 5400 ≤ 7178331; omega⟩ (c1 := (cells + 916)) (s1 := (slots + 5545)) (by omega) (by omega) dL_law_428 (fun rv ws H locs hP Z => ?_)
    obtain ⟨rfl, hw⟩ := hP
    refine W.eq (g2 := F0 m 431 ls [.long (pseen b.1)]) rfl ?_
    refine lv_aload_n X.x X.b dL_law_431 rfl (lv_at hl 2 rfl) ?_
    refine lv_iload_n X.x X.b dL_law_432 rfl (lv_at hl 1 rfl) ?_
    refine lv_bipush (v := 6) X.x X.b dL_law_433 kb_6 ?_
    have key : ∀ (i : Nat), i < 64 → f i = pseen b.1 → W p l e room_1 s m #[Value.ref sb] below meth c H locs (cells + 916) (slots + 5545) Q (F0 m 446 ls [.int (nI i), .ref aw, .long (pseen b.1)]) := by
      intro i hi hfi
      have Zp := Z.perm List.perm_append_comm
      refine z_lald X Zp 0 rfl (vp_in_nI hi (by decide)) dL_law_446 ?_
      rw [nI_clamp (by omega), hfi]
      refine W.lcmp X.x X.b dL_law_447 ?_
      rw [lg_cmp_self]
      refine lv_if_ne (tgt := 455) X.x X.b dL_law_448 (by decide) (fun g => absurd rfl g) (fun _ => ?_)
      refine lv_iconst (v := 1) X.x X.b dL_law_451 ki_1 ?_
      refine lv_goto (tgt := 456) X.x X.b dL_law_452 (by decide) ?_
      refine va_forget (fun q hq => Z.2.2.2.2 q hq) ?_
      refine W.widen (k := 641046) (n := 7178331) (by omega) (by omega) ?_
      exact hend H ls
    by_cases h6 : acts ≤ 6
    · have g : nI acts ≤ 6 := nI_le (b := 6) h6 (by decide)
      refine lv_icmp_le (tgt := 445) X.x X.b dL_law_435 (by decide) (fun _ => ?_) (fun g2 => absurd g g2)
      refine lv_iconst (v := 0) X.x X.b dL_law_445 ki_0 ?_
      exact key 0 (by decide) (hf ▸ congrArg f (by omega))
    · have g : ¬ nI acts ≤ 6 := nI_ge (a := 6) (by omega) (by omega)
      refine lv_icmp_le (tgt := 445) X.x X.b dL_law_435 (by decide) (fun g2 => absurd g2 g) (fun _ => ?_)
      refine lv_iload_n X.x X.b dL_law_438 rfl (lv_at hl 1 rfl) ?_
      refine lv_bipush (v := 6) X.x X.b dL_law_439 kb_6 ?_
      refine lv_isub X.x X.b dL_law_441 ?_
      rw [show nI acts - 6 = nI (acts - 6) from pk_sub (a := acts) (b := 6) (by omega)]
      refine lv_goto (tgt := 446) X.x X.b dL_law_442 (by decide) ?_
      exact key (acts - 6) (by omega) (hf ▸ congrArg f (by omega))
  | succ r ih =>
    intro j b cells slots H locs ls ws hr hj hc hs hI hf hh hw Z hl
    obtain ⟨n, hn, hsz, -⟩ := id hI
    have hsz : (tF b.1).2.2.1 = nI n := hsz
    obtain ⟨u, hq, hb1⟩ : ∃ u hq, b.2.1 = u :: hq := by
      match e : b.2.1, hr with
      | u :: hq, _ => exact ⟨u, hq, rfl⟩
    have hrl : hq.length = r := by
      rw [hb1] at hr
      exact Nat.succ.inj hr
    refine lv_aload_n X.x X.b dL_law_357 rfl (lv_at hl 3 rfl) ?_
    refine lv_bipush (v := 6) X.x X.b dL_law_358 kb_6 ?_
    refine o_call (wr := [(aw, .inl (Δ.2.2.2.1, 64, .inr (.inl f)))]) Y Z hl hw (C_count l hT Δ 6 (c_count6 _)) wd_290 wd_291 wd_292 wd_19 wd_293 ok_X6_count rfl rfl (rest := []) rfl (Nat.le_of_ble_eq_true rfl) ⟨Nat.le_of_ble_eq_true rfl, Nat.le_of_ble_eq_true rfl⟩ ⟨by show cells + 1 ≤ 641046; omega, by show slots + 6 ≤ 7178331; omega⟩ (c1 := (cells + 1)) (s1 := (slots + 6)) (by omega) (by omega) dL_law_360 (fun ws H locs hw Z => ?_)
    rw [hr]
    refine lv_if_le (tgt := 413) X.x X.b dL_law_363 (by decide) (fun g => absurd g (nI_nle (by omega) (by omega))) (fun _ => ?_)
    refine lv_aload_n X.x X.b dL_law_366 rfl (lv_at hl 3 rfl) ?_
    refine lv_bipush (v := 6) X.x X.b dL_law_367 kb_6 ?_
    refine o_call (wr := [(aw, .inl (Δ.2.2.2.1, 64, .inr (.inl f)))]) Y Z hl hw (C_count l hT Δ 6 (c_count6 _)) wd_290 wd_291 wd_292 wd_19 wd_293 ok_X6_count rfl rfl (rest := []) rfl (Nat.le_of_ble_eq_true rfl) ⟨Nat.le_of_ble_eq_true rfl, Nat.le_of_ble_eq_true rfl⟩ ⟨by show (cells + 1) + 1 ≤ 641046; omega, by show (slots + 6) + 6 ≤ 7178331; omega⟩ (c1 := (cells + 2)) (s1 := (slots + 12)) (by omega) (by omega) dL_law_369 (fun ws H locs hw Z => ?_)
    rw [hr]
    refine lv_istore (lv' := [(5, .int (nI (r + 1))), (4, .int (nI j)), (3, .int (nI acts)), (2, .ref aw), (1, .ref a), (0, .ref sb)]) X.x X.b dL_law_372 hl (Nat.le_of_ble_eq_true rfl) rfl (fun ls hl => ?_)
    refine lv_iload X.x X.b dL_law_374 (lv_at hl 1 rfl) ?_
    refine lv_iconst (v := 5) X.x X.b dL_law_376 ki_5 ?_
    have g5 : ¬ (5 : Int32) < nI j := nI_nlt (a := 5) (by omega) (by omega)
    refine lv_icmp_gt (tgt := 405) X.x X.b dL_law_377 (by decide) (fun g => absurd g g5) (fun _ => ?_)
    refine lv_aload_n X.x X.b dL_law_380 rfl (lv_at hl 4 rfl) ?_
    refine o_stat (wr := [(aw, .inl (Δ.2.2.2.1, 64, .inr (.inl f)))]) Y Z hl (M_seen l hT Δ hn hsz a ws hw) wd_766 wd_767 wd_18 wd_768 ok_L_seen rfl (rest := []) rfl (Nat.le_of_ble_eq_true rfl) ⟨Nat.le_of_ble_eq_true rfl, Nat.le_of_ble_eq_true rfl⟩ ⟨by show (cells + 2) + 900 ≤ 641046; omega, by show (slots + 12) + 5400 ≤ 7178331; omega⟩ (c1 := (cells + 902)) (s1 := (slots + 5412)) (by omega) (by omega) dL_law_381 (fun rv ws H locs hP Z => ?_)
    obtain ⟨rfl, hw⟩ := hP
    refine W.eq (g2 := F0 m 384 ls [.long (pseen b.1)]) rfl ?_
    refine lv_aload_n X.x X.b dL_law_384 rfl (lv_at hl 3 rfl) ?_
    refine lv_iload_n X.x X.b dL_law_385 rfl (lv_at hl 2 rfl) ?_
    refine lv_iload X.x X.b dL_law_386 (lv_at hl 1 rfl) ?_
    refine lv_isub X.x X.b dL_law_388 ?_
    rw [show nI acts - nI j = nI (acts - j) from pk_sub (by omega)]
    have Zp := Z.perm List.perm_append_comm
    refine z_lald X Zp 0 rfl (vp_in_nI (by omega) (by decide)) dL_law_389 ?_
    rw [nI_clamp (by omega), ← hf]
    refine W.lcmp X.x X.b dL_law_390 ?_
    rw [lg_cmp_self]
    refine lv_if_ne (tgt := 405) X.x X.b dL_law_391 (by decide) (fun g => absurd rfl g) (fun _ => ?_)
    refine lv_aload_n X.x X.b dL_law_394 rfl (lv_at hl 4 rfl) ?_
    refine o_call (wr := [(aw, .inl (Δ.2.2.2.1, 64, .inr (.inl f)))]) Y Z hl hw (C_undo l hT Δ  (s_undo1 hb1)) wd_193 wd_194 wd_195 wd_19 wd_196 ok_X6_undo rfl rfl (rest := []) rfl (Nat.le_of_ble_eq_true rfl) ⟨Nat.le_of_ble_eq_true rfl, Nat.le_of_ble_eq_true rfl⟩ ⟨by show (cells + 902) + 1 ≤ 641046; omega, by show (slots + 5412) + 6 ≤ 7178331; omega⟩ (c1 := (cells + 903)) (s1 := (slots + 5418)) (by omega) (by omega) dL_law_395 (fun ws H locs hw Z => ?_)
    rw [hrl]
    refine lv_iload X.x X.b dL_law_398 (lv_at hl 0 rfl) ?_
    refine lv_iconst (v := 1) X.x X.b dL_law_400 ki_1 ?_
    refine lv_isub X.x X.b dL_law_401 ?_
    rw [nI_pred]
    refine lv_icmp_eq (tgt := 407) X.x X.b dL_law_402 (by decide) (fun _ => ?_) (fun g => absurd rfl g)
    refine lv_iinc (v := nI (j + 1)) (lv' := [(4, .int (nI (j + 1))), (5, .int (nI (r + 1))), (3, .int (nI acts)), (2, .ref aw), (1, .ref a), (0, .ref sb)]) X.x X.b dL_law_407 hl (k := 1) rfl ((congrArg _ ki_1).trans (nI_1 j)) (Nat.le_of_ble_eq_true rfl) rfl (fun ls hl => ?_)
    refine lv_goto (tgt := 357) X.x X.b dL_law_410 (by decide) ?_
    obtain ⟨g1, g2⟩ := hh 0 u (by rw [hb1]; rfl)
    exact ih (j + 1) (u, hq, b.2.2) _ _ H locs ls ws hrl (by omega) (by omega) (by omega) g1 (g2.trans (congrArg f (by omega))) (fun i v hv => by
      obtain ⟨k1, k2⟩ := hh (i + 1) v (by rw [hb1]; exact hv)
      exact ⟨k1, k2.trans (congrArg f (by omega))⟩) hw Z (lv_sub hl [0, 2, 3, 4, 5] rfl)
set_option maxRecDepth 100000 in
set_option maxHeartbeats 4000000 in
theorem law_rest {p : Program} {l : Launch} {e : Env} {s : State} {m : MethodId} {below : List Frame} {meth : Method} {c : Code} {Q : State → Prop} {Δ : zE} {sb : Nat} (hT : l.stackTraces = false) (Y : zY Δ p l s m #[Value.ref sb] meth c ⟨"SerialRecapsLaw", meth.name, ""⟩ code 11 (some .boolean) (fun q => s.heap.size ≤ q)) {a aw : Nat} (hend : ∀ (H : Heap) (ls : Array Slot), W p l e room_1 s m #[Value.ref sb] below meth c H [] 641046 7178331 Q (F0 m 456 ls [.int 1])) (cells slots : Nat) (H : Heap) (locs : List Loc) (ls : Array Slot) (hc : cells ≤ 100000) (hs : slots ≤ 600000) (hI : lwI Δ s sb a aw 34 H locs ls) : W p l e room_1 s m #[Value.ref sb] below meth c H locs cells slots Q (F0 m 330 ls []) := by
  have X := Y.1
  obtain ⟨acts, f, b, ws, ha, hH, hw, Z, hl⟩ := hI
  obtain ⟨n, hn, hsz⟩ := hH.sz
  refine lv_aload_n X.x X.b dL_law_330 rfl (lv_at hl 2 rfl) ?_
  refine lv_iload_n X.x X.b dL_law_331 rfl (lv_at hl 1 rfl) ?_
  refine lv_aload_n X.x X.b dL_law_332 rfl (lv_at hl 3 rfl) ?_
  refine o_stat (wr := [(aw, .inl (Δ.2.2.2.1, 64, .inr (.inl f)))]) Y Z hl (M_seen l hT Δ hn hsz a ws hw) wd_766 wd_767 wd_18 wd_768 ok_L_seen rfl (rest := [.int (nI acts), .ref aw]) rfl (Nat.le_of_ble_eq_true rfl) ⟨Nat.le_of_ble_eq_true rfl, Nat.le_of_ble_eq_true rfl⟩ ⟨by show cells + 900 ≤ 641046; omega, by show slots + 5400 ≤ 7178331; omega⟩ (c1 := (cells + 900)) (s1 := (slots + 5400)) (by omega) (by omega) dL_law_333 (fun rv ws H locs hP Z => ?_)
  obtain ⟨rfl, hw⟩ := hP
  refine W.eq (g2 := F0 m 336 ls [.long (pseen b.1), .int (nI acts), .ref aw]) rfl ?_
  have Zp := Z.perm List.perm_append_comm
  refine z_last (w' := [(aw, .inl (Δ.2.2.2.1, 64, .inr (.inl (vp_updL f (nI acts).toNatClampNeg (pseen b.1)))))] ++ ws) X Zp 0 rfl (vp_in_nI (by omega) (by decide)) rfl dL_law_336 (fun H locs Z => ?_)
  have Z := Z.perm List.perm_append_comm
  have hH2 := hH.set (by omega) (pseen b.1)
  have hfa := updL_at f (acts := acts) (by omega) (pseen b.1)
  generalize vp_updL f (nI acts).toNatClampNeg (pseen b.1) = f at Z hH2 hfa
  refine lv_aload_n X.x X.b dL_law_337 rfl (lv_at hl 3 rfl) ?_
  refine lv_iconst (v := 0) X.x X.b dL_law_338 ki_0 ?_
  refine o_call (wr := [(aw, .inl (Δ.2.2.2.1, 64, .inr (.inl f)))]) Y Z hl hw (C_count l hT Δ 0 (c_count0 b)) wd_290 wd_291 wd_292 wd_19 wd_293 ok_X6_count rfl rfl (rest := []) rfl (Nat.le_of_ble_eq_true rfl) ⟨Nat.le_of_ble_eq_true rfl, Nat.le_of_ble_eq_true rfl⟩ ⟨by show (cells + 900) + 1 ≤ 641046; omega, by show (slots + 5400) + 6 ≤ 7178331; omega⟩ (c1 := (cells + 901)) (s1 := (slots + 5406)) (by omega) (by omega) dL_law_339 (fun ws H locs hw Z => ?_)
  have key : ∀ (cells slots : Nat) (H : Heap) (locs : List Loc) (ws : va_W), cells ≤ 200000 → slots ≤ 2000000 → wOb Δ a b ws → zW Δ (fun q => s.heap.size ≤ q) s.heap (ws ++ [(aw, .inl (Δ.2.2.2.1, 64, .inr (.inl f)))]) H locs → W p l e room_1 s m #[Value.ref sb] below meth c H locs cells slots Q (F0 m 354 ls []) := by
      intro cells slots H locs ws hc hs hw Z
      refine lv_iconst (v := 0) X.x X.b dL_law_354 ki_0 ?_
      rw [show (0 : Int32) = nI 0 from rfl]
      refine lv_istore (lv' := [(4, .int (nI 0)), (3, .int (nI acts)), (2, .ref aw), (1, .ref a), (0, .ref sb)]) X.x X.b dL_law_355 hl (Nat.le_of_ble_eq_true rfl) rfl (fun ls hl => ?_)
      obtain ⟨q1, q2, q3, q4⟩ := hH2
      exact law_undo hT Y (by omega) hend _ 0 b cells slots H locs ls ws rfl (by rw [q3]; omega) (by omega) (by omega) q1 hfa.symm q4 hw Z (lv_sub hl [0, 1, 2, 3, 4] rfl)
  by_cases h0 : (tF b.1).2.2.1 ≤ 0
  · refine lv_if_le (tgt := 354) X.x X.b dL_law_342 (by decide) (fun _ => ?_) (fun g => absurd h0 g)
    exact key _ _ H locs ws (by omega) (by omega) hw Z
  · refine lv_if_le (tgt := 354) X.x X.b dL_law_342 (by decide) (fun g => absurd g h0) (fun _ => ?_)
    refine lv_aload_n X.x X.b dL_law_345 rfl (lv_at hl 3 rfl) ?_
    obtain ⟨-, -, -, -, hq, -⟩ := id hH.1
    obtain ⟨dv, hdv⟩ := dg_tot (b := b) (n := n) (m := 0) hn hsz (by decide) hH.2.1 hq
    refine o_stat (wr := [(aw, .inl (Δ.2.2.2.1, 64, .inr (.inl f)))]) Y Z hl (M_refused l hT Δ (Int32.not_le.mp h0) hdv a ws hw) wd_674 wd_675 wd_18 wd_676 ok_L_refused rfl (rest := []) rfl (Nat.le_of_ble_eq_true rfl) ⟨Nat.le_of_ble_eq_true rfl, Nat.le_of_ble_eq_true rfl⟩ ⟨by show (cells + 901) + 962 ≤ 641046; omega, by show (slots + 5406) + 8908 ≤ 7178331; omega⟩ (c1 := (cells + 1863)) (s1 := (slots + 14314)) (by omega) (by omega) dL_law_346 (fun rv ws H locs hP Z => ?_)
    obtain ⟨rfl, hw⟩ := hP
    refine W.eq (g2 := F0 m 349 ls [.int 1]) rfl ?_
    refine lv_if_ne (tgt := 354) X.x X.b dL_law_349 (by decide) (fun _ => ?_) (fun h => absurd h (by decide))
    exact key _ _ H locs ws (by omega) (by omega) hw Z
theorem zHk_new : zHk s_new 0 (fun _ => 0) := ⟨zI_tN (c := zInit) (n := 0) (by decide) rfl (fun j _ => ⟨0, by decide, rfl⟩) ⟨4, by decide, by decide⟩ ⟨10, by decide, by decide⟩, rfl, rfl, fun i u hu => by cases hu⟩
set_option maxRecDepth 100000 in
set_option maxHeartbeats 4000000 in
/-- from the entry, for every script of at most 260 ints, the law comes to its end with true -/
theorem whole_start {p : Program} {e : Env} {s : State} {m : MethodId} {below : List Frame} {meth : Method} {c : Code} (l : Launch) (hflags : l.flags = flags0) {b L : Nat} {xs : Nat → Int32} (hL : L ≤ 260) (C0 : lw_At p s m meth c b L xs) : W p l e room_1 s m #[Value.ref b] below meth c s.heap [] 0 0 (lw_Z below #[Value.ref b] s) (entryFrame m ([Value.ref b] : List Value).toArray 11) := by
  obtain ⟨hx, hb, hr, hml, hown, hts, hX, hbl, hlocks, hgv⟩ := id C0
  have hT : l.stackTraces = false := by
    unfold Launch.stackTraces
    rw [hflags]
    decide
  obtain ⟨Δ, hK⟩ := zl_K hts hgv
  have Y := zl_Y hT hK C0
  have X := Y.1
  have hend : ∀ (H : Heap) (ls : Array Slot), W p l e room_1 s m #[Value.ref b] below meth c H [] 641046 7178331 (lw_Z below #[Value.ref b] s) (F0 m 456 ls [.int 1]) := fun H ls => by
    refine W.base ?_
    exact lw_ret (Drawn.sameBut.refl s.drawn lw_cs) hx hb hr hlocks dL_law_456
  have Z : zW Δ (fun q => s.heap.size ≤ q) s.heap ([] ++ []) s.heap [] := ⟨fun k q h => by simp at h, ⟨fun i j p q h => by simp at h, fun k q h => by simp at h⟩, va_S.rf⟩
  have hl := lv_entry ([.ref b]) (n := 11) (Nat.le_of_ble_eq_true rfl)
  rw [lg_entry_eq]
  generalize (lg_sl ([.ref b]) ++ List.replicate (11 - (lg_sl ([.ref b])).length) Slot.unset).toArray = ls at hl ⊢
  have hl : lv_has ls 11 [(0, .ref b)] := hl
  refine o_stat (wc := []) (wr := []) Y Z hl (M_serial l hT Δ) wd_719 wd_720 wd_18 wd_721 ok_L_serial rfl (rest := []) rfl (Nat.le_of_ble_eq_true rfl) ⟨Nat.le_of_ble_eq_true rfl, Nat.le_of_ble_eq_true rfl⟩ ⟨Nat.le_of_ble_eq_true rfl, Nat.le_of_ble_eq_true rfl⟩ (c1 := 3651) (s1 := 33605) rfl rfl dL_law_0 (fun rv w1 H locs hP Z => ?_)
  obtain ⟨rfl, rfl⟩ := hP
  refine W.eq (g2 := F0 m 3 ls [.int 1]) rfl ?_
  refine lv_if_eq (tgt := 12) X.x X.b dL_law_3 (by decide) (fun g => absurd g (by decide)) (fun _ => ?_)
  refine o_stat (wc := []) (wr := []) Y Z hl (M_texts l hT Δ) wd_731 wd_732 wd_18 wd_733 ok_L_texts rfl (rest := []) rfl (Nat.le_of_ble_eq_true rfl) ⟨Nat.le_of_ble_eq_true rfl, Nat.le_of_ble_eq_true rfl⟩ ⟨Nat.le_of_ble_eq_true rfl, Nat.le_of_ble_eq_true rfl⟩ (c1 := 4724) (s1 := 42820) rfl rfl dL_law_6 (fun rv w1 H locs hP Z => ?_)
  obtain ⟨rfl, rfl⟩ := hP
  refine W.eq (g2 := F0 m 9 ls [.int 1]) rfl ?_
  refine lv_if_ne (tgt := 14) X.x X.b dL_law_9 (by decide) (fun _ => ?_) (fun g => absurd g (by decide))
  refine o_new (rest := []) Y Z hl wd_35 wd_36 wd_19 wd_37 wd_38 wd_39 ok_X6_init (Nat.le_of_ble_eq_true rfl) ⟨Nat.le_of_ble_eq_true rfl, Nat.le_of_ble_eq_true rfl⟩ ⟨Nat.le_of_ble_eq_true rfl, Nat.le_of_ble_eq_true rfl⟩ (c1 := 4743) (s1 := 43026) rfl rfl dL_law_14 dL_law_17 dL_law_18 (fun a ws H locs hw Z => ?_)
  rw [List.append_nil] at Z
  refine lv_astore_n (lv' := [(1, .ref a), (0, .ref b)]) X.x X.b dL_law_21 rfl hl (Nat.le_of_ble_eq_true rfl) rfl (fun ls hl => ?_)
  refine lv_bipush (v := 64) X.x X.b dL_law_22 kb_64 ?_
  refine c_newaL (N' := 64) X Z wd_770 (by decide) (by decide) (by decide) (Nat.le_of_ble_eq_true rfl) (Nat.le_of_ble_eq_true rfl) dL_law_24 (fun aw H Z => ?_)
  refine lv_astore_n (lv' := [(2, .ref aw), (1, .ref a), (0, .ref b)]) X.x X.b dL_law_26 rfl hl (Nat.le_of_ble_eq_true rfl) rfl (fun ls hl => ?_)
  refine lv_iconst (v := 0) X.x X.b dL_law_27 ki_0 ?_
  refine lv_istore_n (lv' := [(3, .int 0), (2, .ref aw), (1, .ref a), (0, .ref b)]) X.x X.b dL_law_28 rfl hl (Nat.le_of_ble_eq_true rfl) rfl (fun ls hl => ?_)
  refine lv_iconst (v := 0) X.x X.b dL_law_29 ki_0 ?_
  refine lv_istore (lv' := [(4, .int 0), (3, .int 0), (2, .ref aw), (1, .ref a), (0, .ref b)]) X.x X.b dL_law_30 hl (Nat.le_of_ble_eq_true rfl) rfl (fun ls hl => ?_)
  exact law_loop hT Y hX hbl hL (fun cells slots H locs ls h1 h2 h3 => law_rest hT Y hend cells slots H locs ls h1 h2 h3) 34 0 _ _ H locs ls rfl (Nat.le_of_ble_eq_true rfl) (Nat.le_of_ble_eq_true rfl) ⟨0, fun _ => 0, s_new, ws, Nat.le_refl 0, zHk_new, hw, Z, hl⟩
