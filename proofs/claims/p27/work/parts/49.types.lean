/-! THE LAW: types, errorOf -/
def s_sign (w : Int64) (k : Int32) : Int32 := ((w >>> (k.toInt64 &&& 63)) &&& 255).toInt32
def s_types : Nat → zOb → Int64 → Option zOb
  | 0, b, _ => some b
  | n + 1, b, w => if s_sign w (nI (8 * n)) = 0 then s_types n b w else match s_append b (s_sign w (nI (8 * n))) with
    | some (.inr v, b') => if 0 < v then s_types n b' w else none
    | _ => none
theorem s_types_ok {n : Nat} {b b' : zOb} {w : Int64} (h0 : ¬ s_sign w (nI (8 * n)) = 0) (h : s_types (n + 1) b w = some b') : ∃ v b1, s_append b (s_sign w (nI (8 * n))) = some (.inr v, b1) ∧ 0 < v ∧ s_types n b1 w = some b' := by
  rw [s_types, if_neg h0] at h
  match e : s_append b (s_sign w (nI (8 * n))), h with
  | some (.inr v, b1), h =>
    have h : (if 0 < v then s_types n b1 w else none) = some b' := h
    by_cases hv : 0 < v
    · rw [if_pos hv] at h
      exact ⟨v, b1, rfl, hv, h⟩
    · rw [if_neg hv] at h
      cases h
theorem ty_k (n : Nat) : nI (8 * (n + 1)) + (-8) = nI (8 * n) := by
  have h : nI (8 * (n + 1)) = nI (8 * n) + 8 := (nI_add (8 * n) 8).symm
  rw [h, Int32.add_assoc, show (8 : Int32) + (-8) = 0 by decide, Int32.add_zero]
theorem np_pos {v : Int32} (h : 0 < v) : ¬ v ≤ 0 := fun g => Int32.lt_irrefl (Int32.lt_of_lt_of_le h g)
set_option maxRecDepth 100000 in
set_option maxHeartbeats 4000000 in
theorem M_types (l : Launch) (hT : l.stackTraces = false) (Δ : zE) {b b' : zOb} {w : Int64} (h : s_types 8 b w = some b') (a : Nat) (ws : va_W) (hw : wOb Δ a b ws) : zMX l Δ yL_types (.code yL_types cL_types 6 (some .boolean)) 7 111 8 48 [.ref a, .long w] ws (fun rv w => rv = some (.int 1) ∧ wOb Δ a b' w) (fun _ _ => False) := by
  refine x_start hT (by decide +kernel) (Nat.le_of_ble_eq_true rfl) ?_
  intro p e s m args below meth c A ls Y htab Z hl
  have X := Y.1
  have hl : lv_has ls 6 [(0, .ref a), (1, .long w)] := hl
  rw [← List.append_nil ws] at Z
  have L6 : ∀ (n : Nat) (b : zOb) (cells slots : Nat) (H : Heap) (locs : List Loc) (ls : Array Slot) (ws : va_W), n ≤ 8 → cells + 1 * n ≤ 8 → slots + 6 * n ≤ 48 → s_types n b w = some b' → wOb Δ a b ws → zW Δ A s.heap (ws ++ []) H locs → lv_has ls 6 [(4, .int (nI (8 * n) + (-8))), (3, .int 1), (0, .ref a), (1, .long w)] → W p l e { frames := 7, cells := 8, slots := 48, locals := 111 } s m args below meth c H locs cells slots (zEndX Δ below args s 8 48 A (fun rv w => rv = some (.int 1) ∧ wOb Δ a b' w) (fun _ _ => False)) (F0 m 6 ls []) := by
    intro n
    induction n with
    | zero =>
      intro b cells slots H locs ls ws _ hc hs h hw Z hl
      cases h
      refine lv_iload X.x X.b dL_types_6 (lv_at hl 0 rfl) ?_
      refine lv_if_lt (tgt := 52) X.x X.b dL_types_8 (by decide) (fun _ => ?_) (fun h => absurd (by decide) h)
      refine lv_iload_n X.x X.b dL_types_52 rfl (lv_at hl 1 rfl) ?_
      rw [List.append_nil] at Z
      exact x_zret X Z (Or.inr rfl) ⟨rfl, hw⟩ (by omega) (by omega) dL_types_53
    | succ n ih =>
      intro b cells slots H locs ls ws hn hc hs h hw Z hl
      rw [ty_k] at hl
      refine lv_iload X.x X.b dL_types_6 (lv_at hl 0 rfl) ?_
      refine lv_if_lt (tgt := 52) X.x X.b dL_types_8 (by decide) (fun h => absurd h (nI_pos (by omega))) (fun _ => ?_)
      refine lv_lload_n X.x X.b dL_types_11 rfl (lv_at hl 3 rfl) ?_
      refine lv_iload X.x X.b dL_types_12 (lv_at hl 0 rfl) ?_
      refine lv_lshr (v := w >>> ((nI (8 * n)).toInt64 &&& 63)) X.x X.b dL_types_14 rfl ?_
      refine lv_ldc2 (v := 255) X.x X.b X.own (X.ts _ wd_740) dL_types_15 ?_
      refine lv_land X.x X.b dL_types_18 ?_
      refine lv_l2i (v := s_sign w (nI (8 * n))) X.x X.b dL_types_19 rfl ?_
      refine lv_istore (lv' := [(5, .int (s_sign w (nI (8 * n)))), (4, .int (nI (8 * n))), (3, .int 1), (0, .ref a), (1, .long w)]) X.x X.b dL_types_20 hl (Nat.le_of_ble_eq_true rfl) rfl (fun ls hl => ?_)
      refine lv_iload_n X.x X.b dL_types_22 rfl (lv_at hl 2 rfl) ?_
      refine lv_if_eq (tgt := 44) X.x X.b dL_types_23 (by decide) (fun h => absurd h (by decide)) (fun _ => ?_)
      refine lv_iload X.x X.b dL_types_26 (lv_at hl 0 rfl) ?_
      refine lv_if_eq (tgt := 40) X.x X.b dL_types_28 (by decide) (fun h0 => ?_) (fun h0 => ?_)
      · rw [s_types, if_pos h0] at h
        refine lv_iconst (v := 1) X.x X.b dL_types_40 ki_1 ?_
        refine lv_goto (tgt := 45) X.x X.b dL_types_41 (by decide) ?_
        refine lv_istore_n (lv' := [(3, .int 1), (5, .int (s_sign w (nI (8 * n)))), (4, .int (nI (8 * n))), (0, .ref a), (1, .long w)]) X.x X.b dL_types_45 rfl hl (Nat.le_of_ble_eq_true rfl) rfl (fun ls hl => ?_)
        refine lv_iinc (v := nI (8 * n) + (-8)) (lv' := [(4, .int (nI (8 * n) + (-8))), (3, .int 1), (5, .int (s_sign w (nI (8 * n)))), (0, .ref a), (1, .long w)]) X.x X.b dL_types_46 hl (k := 2) rfl (congrArg _ ki_m8) (Nat.le_of_ble_eq_true rfl) rfl (fun ls hl => ?_)
        refine lv_goto (tgt := 6) X.x X.b dL_types_49 (by decide) ?_
        exact ih b cells slots H locs ls ws (by omega) (by omega) (by omega) h hw Z (lv_sub hl [0, 1, 3, 4] rfl)
      · obtain ⟨v, b1, hq, hv, h⟩ := s_types_ok h0 h
        refine lv_aload_n X.x X.b dL_types_31 rfl (lv_at hl 3 rfl) ?_
        refine lv_iload X.x X.b dL_types_32 (lv_at hl 0 rfl) ?_
        refine o_call (wr := []) Y Z hl hw (C_append l hT Δ _ hq) wd_517 wd_518 wd_519 wd_19 wd_520 ok_X6_append rfl rfl (rest := []) rfl (Nat.le_of_ble_eq_true rfl) ⟨Nat.le_of_ble_eq_true rfl, Nat.le_of_ble_eq_true rfl⟩ ⟨by show cells + 1 ≤ 8; omega, by show slots + 6 ≤ 48; omega⟩ (c1 := cells + 1) (s1 := slots + 6) rfl rfl dL_types_34 (fun ws H locs hw Z => ?_)
        refine lv_if_le (tgt := 44) X.x X.b dL_types_37 (by decide) (fun h => absurd h (np_pos hv)) (fun _ => ?_)
        refine lv_iconst (v := 1) X.x X.b dL_types_40 ki_1 ?_
        refine lv_goto (tgt := 45) X.x X.b dL_types_41 (by decide) ?_
        refine lv_istore_n (lv' := [(3, .int 1), (5, .int (s_sign w (nI (8 * n)))), (4, .int (nI (8 * n))), (0, .ref a), (1, .long w)]) X.x X.b dL_types_45 rfl hl (Nat.le_of_ble_eq_true rfl) rfl (fun ls hl => ?_)
        refine lv_iinc (v := nI (8 * n) + (-8)) (lv' := [(4, .int (nI (8 * n) + (-8))), (3, .int 1), (5, .int (s_sign w (nI (8 * n)))), (0, .ref a), (1, .long w)]) X.x X.b dL_types_46 hl (k := 2) rfl (congrArg _ ki_m8) (Nat.le_of_ble_eq_true rfl) rfl (fun ls hl => ?_)
        refine lv_goto (tgt := 6) X.x X.b dL_types_49 (by decide) ?_
        exact ih b1 (cells + 1) (slots + 6) H locs ls ws (by omega) (by omega) (by omega) h hw Z (lv_sub hl [0, 1, 3, 4] rfl)
  refine lv_iconst (v := 1) X.x X.b dL_types_0 ki_1 ?_
  refine lv_istore_n (lv' := [(3, .int 1), (0, .ref a), (1, .long w)]) X.x X.b dL_types_1 rfl hl (Nat.le_of_ble_eq_true rfl) rfl (fun ls hl => ?_)
  refine lv_bipush (v := 56) X.x X.b dL_types_2 kb_56 ?_
  rw [show (56 : Int32) = nI (8 * 8) + (-8) by decide]
  refine lv_istore (lv' := [(4, .int (nI (8 * 8) + (-8))), (3, .int 1), (0, .ref a), (1, .long w)]) X.x X.b dL_types_4 hl (Nat.le_of_ble_eq_true rfl) rfl (fun ls hl => ?_)
  exact L6 8 b 0 0 _ _ ls ws (Nat.le_of_ble_eq_true rfl) (Nat.le_of_ble_eq_true rfl) (Nat.le_of_ble_eq_true rfl) h hw Z hl
set_option maxRecDepth 100000 in
set_option maxHeartbeats 4000000 in
theorem M_errorOf0 (l : Launch) (hT : l.stackTraces = false) (Δ : zE) {one other : Int64} {b1 b2 b3 : zOb} {er v r : Int32} (h1 : s_types 8 s_new one = some b1) (h2 : s_types 8 b1 other = some b2) (h3 : s_firstError b2 = some (.inr er, b2)) (h4 : s_told b2 9 0 0 0 = some (v, b3)) (hv : v ≤ 0) (hr : ((2 * er) + 0) = r) : zMX l Δ yL_errorOf (.code yL_errorOf cL_errorOf 7 (some .int)) 10 190 51 447 [.long one, .long other] [] (fun rv w => rv = some (.int r) ∧ w = []) (fun _ _ => False) := by
  refine x_start hT (by decide +kernel) (Nat.le_of_ble_eq_true rfl) ?_
  intro p e s m args below meth c A ls Y htab Z hl
  have X := Y.1
  have hl : lv_has ls 7 [(0, .long one), (2, .long other)] := hl
  refine o_new (rest := []) Y Z hl wd_35 wd_36 wd_19 wd_37 wd_38 wd_39 ok_X6_init (Nat.le_of_ble_eq_true rfl) ⟨Nat.le_of_ble_eq_true rfl, Nat.le_of_ble_eq_true rfl⟩ ⟨Nat.le_of_ble_eq_true rfl, Nat.le_of_ble_eq_true rfl⟩ (c1 := 19) (s1 := 206) rfl rfl dL_errorOf_0 dL_errorOf_3 dL_errorOf_4 (fun a ws H locs hw Z => ?_)
  refine lv_astore (lv' := [(4, .ref a), (0, .long one), (2, .long other)]) X.x X.b dL_errorOf_7 hl (Nat.le_of_ble_eq_true rfl) rfl (fun ls hl => ?_)
  refine lv_aload X.x X.b dL_errorOf_9 (lv_at hl 0 rfl) ?_
  refine lv_lload_n X.x X.b dL_errorOf_11 rfl (lv_at hl 1 rfl) ?_
  refine o_stat (wr := []) Y Z hl (M_types l hT Δ h1 a ws hw) wd_737 wd_738 wd_18 wd_739 ok_L_types rfl (rest := []) rfl (Nat.le_of_ble_eq_true rfl) ⟨Nat.le_of_ble_eq_true rfl, Nat.le_of_ble_eq_true rfl⟩ ⟨Nat.le_of_ble_eq_true rfl, Nat.le_of_ble_eq_true rfl⟩ (c1 := 27) (s1 := 254) rfl rfl dL_errorOf_12 (fun rv ws H locs hP Z => ?_)
  obtain ⟨rfl, hw⟩ := hP
  refine W.eq (g2 := F0 m 15 ls [.int 1]) rfl ?_
  refine lv_if_eq (tgt := 27) X.x X.b dL_errorOf_15 (by decide) (fun h => absurd h (by decide)) (fun _ => ?_)
  refine lv_aload X.x X.b dL_errorOf_18 (lv_at hl 0 rfl) ?_
  refine lv_lload_n X.x X.b dL_errorOf_20 rfl (lv_at hl 2 rfl) ?_
  refine o_stat (wr := []) Y Z hl (M_types l hT Δ h2 a ws hw) wd_737 wd_738 wd_18 wd_739 ok_L_types rfl (rest := []) rfl (Nat.le_of_ble_eq_true rfl) ⟨Nat.le_of_ble_eq_true rfl, Nat.le_of_ble_eq_true rfl⟩ ⟨Nat.le_of_ble_eq_true rfl, Nat.le_of_ble_eq_true rfl⟩ (c1 := 35) (s1 := 302) rfl rfl dL_errorOf_21 (fun rv ws H locs hP Z => ?_)
  obtain ⟨rfl, hw⟩ := hP
  refine W.eq (g2 := F0 m 24 ls [.int 1]) rfl ?_
  refine lv_if_ne (tgt := 30) X.x X.b dL_errorOf_24 (by decide) (fun _ => ?_) (fun h => absurd h (by decide))
  refine lv_aload X.x X.b dL_errorOf_30 (lv_at hl 0 rfl) ?_
  refine o_call (wr := []) Y Z hl hw (C_firstError l hT Δ  h3) wd_741 wd_742 wd_743 wd_19 wd_744 ok_X6_firstError rfl rfl (rest := []) rfl (Nat.le_of_ble_eq_true rfl) ⟨Nat.le_of_ble_eq_true rfl, Nat.le_of_ble_eq_true rfl⟩ ⟨Nat.le_of_ble_eq_true rfl, Nat.le_of_ble_eq_true rfl⟩ (c1 := 35) (s1 := 302) rfl rfl dL_errorOf_32 (fun ws H locs hw Z => ?_)
  refine lv_istore (lv' := [(5, .int er), (4, .ref a), (0, .long one), (2, .long other)]) X.x X.b dL_errorOf_35 hl (Nat.le_of_ble_eq_true rfl) rfl (fun ls hl => ?_)
  refine lv_aload X.x X.b dL_errorOf_37 (lv_at hl 1 rfl) ?_
  refine lv_bipush (v := 9) X.x X.b dL_errorOf_39 kb_9 ?_
  refine lv_iconst (v := 0) X.x X.b dL_errorOf_41 ki_0 ?_
  refine lv_iconst (v := 0) X.x X.b dL_errorOf_42 ki_0 ?_
  refine lv_iconst (v := 0) X.x X.b dL_errorOf_43 ki_0 ?_
  refine o_statX (wr := []) Y Z hl (M_told l hT Δ 9 0 0 0 h4 a ws hw) wd_349 wd_350 wd_18 wd_351 ok_L_told rfl (rest := []) rfl (Nat.le_of_ble_eq_true rfl) ⟨Nat.le_of_ble_eq_true rfl, Nat.le_of_ble_eq_true rfl⟩ ⟨Nat.le_of_ble_eq_true rfl, Nat.le_of_ble_eq_true rfl⟩ (c1 := 50) (s1 := 441) rfl rfl dL_errorOf_44 (fun rv ws H locs hP Z => ?_)
  obtain ⟨rfl, hw⟩ := hP
  refine W.eq (g2 := F0 m 47 ls [.int v]) rfl ?_
  refine lv_istore (lv' := [(6, .int v), (5, .int er), (4, .ref a), (0, .long one), (2, .long other)]) X.x X.b dL_errorOf_47 hl (Nat.le_of_ble_eq_true rfl) rfl (fun ls hl => ?_)
  refine lv_iconst (v := 2) X.x X.b dL_errorOf_49 ki_2 ?_
  refine lv_iload X.x X.b dL_errorOf_50 (lv_at hl 1 rfl) ?_
  refine lv_imul X.x X.b dL_errorOf_52 ?_
  refine lv_iload X.x X.b dL_errorOf_53 (lv_at hl 0 rfl) ?_
  refine lv_if_le (tgt := 81) X.x X.b dL_errorOf_55 (by decide) (fun _ => ?_) (fun h => absurd hv h)
  refine lv_iconst (v := 0) X.x X.b dL_errorOf_81 ki_0 ?_
  refine lv_iadd X.x X.b dL_errorOf_82 ?_
  rw [show ((2 * er) + 0) = r from hr]
  exact x_iret X Z.none ⟨rfl, rfl⟩ (Nat.le_of_ble_eq_true rfl) (Nat.le_of_ble_eq_true rfl) dL_errorOf_83
set_option maxRecDepth 100000 in
set_option maxHeartbeats 4000000 in
theorem M_errorOf1 (l : Launch) (hT : l.stackTraces = false) (Δ : zE) {one other : Int64} {b1 b2 b3 b4 : zOb} {er v r : Int32} (h1 : s_types 8 s_new one = some b1) (h2 : s_types 8 b1 other = some b2) (h3 : s_firstError b2 = some (.inr er, b2)) (h4 : s_told b2 9 0 0 0 = some (v, b3)) (hv : ¬ v ≤ 0) (h5 : s_count b3 0 = some (.inr v, b3)) (h6 : s_clearBuffer b3 = some (.inr 0, b4)) (hr : ((2 * er) + 1) = r) : zMX l Δ yL_errorOf (.code yL_errorOf cL_errorOf 7 (some .int)) 10 190 51 447 [.long one, .long other] [] (fun rv w => rv = some (.int r) ∧ w = []) (fun _ _ => False) := by
  refine x_start hT (by decide +kernel) (Nat.le_of_ble_eq_true rfl) ?_
  intro p e s m args below meth c A ls Y htab Z hl
  have X := Y.1
  have hl : lv_has ls 7 [(0, .long one), (2, .long other)] := hl
  refine o_new (rest := []) Y Z hl wd_35 wd_36 wd_19 wd_37 wd_38 wd_39 ok_X6_init (Nat.le_of_ble_eq_true rfl) ⟨Nat.le_of_ble_eq_true rfl, Nat.le_of_ble_eq_true rfl⟩ ⟨Nat.le_of_ble_eq_true rfl, Nat.le_of_ble_eq_true rfl⟩ (c1 := 19) (s1 := 206) rfl rfl dL_errorOf_0 dL_errorOf_3 dL_errorOf_4 (fun a ws H locs hw Z => ?_)
  refine lv_astore (lv' := [(4, .ref a), (0, .long one), (2, .long other)]) X.x X.b dL_errorOf_7 hl (Nat.le_of_ble_eq_true rfl) rfl (fun ls hl => ?_)
  refine lv_aload X.x X.b dL_errorOf_9 (lv_at hl 0 rfl) ?_
  refine lv_lload_n X.x X.b dL_errorOf_11 rfl (lv_at hl 1 rfl) ?_
  refine o_stat (wr := []) Y Z hl (M_types l hT Δ h1 a ws hw) wd_737 wd_738 wd_18 wd_739 ok_L_types rfl (rest := []) rfl (Nat.le_of_ble_eq_true rfl) ⟨Nat.le_of_ble_eq_true rfl, Nat.le_of_ble_eq_true rfl⟩ ⟨Nat.le_of_ble_eq_true rfl, Nat.le_of_ble_eq_true rfl⟩ (c1 := 27) (s1 := 254) rfl rfl dL_errorOf_12 (fun rv ws H locs hP Z => ?_)
  obtain ⟨rfl, hw⟩ := hP
  refine W.eq (g2 := F0 m 15 ls [.int 1]) rfl ?_
  refine lv_if_eq (tgt := 27) X.x X.b dL_errorOf_15 (by decide) (fun h => absurd h (by decide)) (fun _ => ?_)
  refine lv_aload X.x X.b dL_errorOf_18 (lv_at hl 0 rfl) ?_
  refine lv_lload_n X.x X.b dL_errorOf_20 rfl (lv_at hl 2 rfl) ?_
  refine o_stat (wr := []) Y Z hl (M_types l hT Δ h2 a ws hw) wd_737 wd_738 wd_18 wd_739 ok_L_types rfl (rest := []) rfl (Nat.le_of_ble_eq_true rfl) ⟨Nat.le_of_ble_eq_true rfl, Nat.le_of_ble_eq_true rfl⟩ ⟨Nat.le_of_ble_eq_true rfl, Nat.le_of_ble_eq_true rfl⟩ (c1 := 35) (s1 := 302) rfl rfl dL_errorOf_21 (fun rv ws H locs hP Z => ?_)
  obtain ⟨rfl, hw⟩ := hP
  refine W.eq (g2 := F0 m 24 ls [.int 1]) rfl ?_
  refine lv_if_ne (tgt := 30) X.x X.b dL_errorOf_24 (by decide) (fun _ => ?_) (fun h => absurd h (by decide))
  refine lv_aload X.x X.b dL_errorOf_30 (lv_at hl 0 rfl) ?_
  refine o_call (wr := []) Y Z hl hw (C_firstError l hT Δ  h3) wd_741 wd_742 wd_743 wd_19 wd_744 ok_X6_firstError rfl rfl (rest := []) rfl (Nat.le_of_ble_eq_true rfl) ⟨Nat.le_of_ble_eq_true rfl, Nat.le_of_ble_eq_true rfl⟩ ⟨Nat.le_of_ble_eq_true rfl, Nat.le_of_ble_eq_true rfl⟩ (c1 := 35) (s1 := 302) rfl rfl dL_errorOf_32 (fun ws H locs hw Z => ?_)
  refine lv_istore (lv' := [(5, .int er), (4, .ref a), (0, .long one), (2, .long other)]) X.x X.b dL_errorOf_35 hl (Nat.le_of_ble_eq_true rfl) rfl (fun ls hl => ?_)
  refine lv_aload X.x X.b dL_errorOf_37 (lv_at hl 1 rfl) ?_
  refine lv_bipush (v := 9) X.x X.b dL_errorOf_39 kb_9 ?_
  refine lv_iconst (v := 0) X.x X.b dL_errorOf_41 ki_0 ?_
  refine lv_iconst (v := 0) X.x X.b dL_errorOf_42 ki_0 ?_
  refine lv_iconst (v := 0) X.x X.b dL_errorOf_43 ki_0 ?_
  refine o_statX (wr := []) Y Z hl (M_told l hT Δ 9 0 0 0 h4 a ws hw) wd_349 wd_350 wd_18 wd_351 ok_L_told rfl (rest := []) rfl (Nat.le_of_ble_eq_true rfl) ⟨Nat.le_of_ble_eq_true rfl, Nat.le_of_ble_eq_true rfl⟩ ⟨Nat.le_of_ble_eq_true rfl, Nat.le_of_ble_eq_true rfl⟩ (c1 := 50) (s1 := 441) rfl rfl dL_errorOf_44 (fun rv ws H locs hP Z => ?_)
  obtain ⟨rfl, hw⟩ := hP
  refine W.eq (g2 := F0 m 47 ls [.int v]) rfl ?_
  refine lv_istore (lv' := [(6, .int v), (5, .int er), (4, .ref a), (0, .long one), (2, .long other)]) X.x X.b dL_errorOf_47 hl (Nat.le_of_ble_eq_true rfl) rfl (fun ls hl => ?_)
  refine lv_iconst (v := 2) X.x X.b dL_errorOf_49 ki_2 ?_
  refine lv_iload X.x X.b dL_errorOf_50 (lv_at hl 1 rfl) ?_
  refine lv_imul X.x X.b dL_errorOf_52 ?_
  refine lv_iload X.x X.b dL_errorOf_53 (lv_at hl 0 rfl) ?_
  refine lv_if_le (tgt := 81) X.x X.b dL_errorOf_55 (by decide) (fun h => absurd h hv) (fun _ => ?_)
  refine lv_aload X.x X.b dL_errorOf_58 (lv_at hl 2 rfl) ?_
  refine lv_iconst (v := 0) X.x X.b dL_errorOf_60 ki_0 ?_
  refine o_call (wr := []) Y Z hl hw (C_count l hT Δ 0 h5) wd_290 wd_291 wd_292 wd_19 wd_293 ok_X6_count rfl rfl (rest := [.int (2 * er)]) rfl (Nat.le_of_ble_eq_true rfl) ⟨Nat.le_of_ble_eq_true rfl, Nat.le_of_ble_eq_true rfl⟩ ⟨Nat.le_of_ble_eq_true rfl, Nat.le_of_ble_eq_true rfl⟩ (c1 := 51) (s1 := 447) rfl rfl dL_errorOf_61 (fun ws H locs hw Z => ?_)
  refine lv_iload X.x X.b dL_errorOf_64 (lv_at hl 0 rfl) ?_
  refine lv_icmp_ne (tgt := 81) X.x X.b dL_errorOf_66 (by decide) (fun h => absurd rfl h) (fun _ => ?_)
  refine lv_aload X.x X.b dL_errorOf_69 (lv_at hl 2 rfl) ?_
  refine o_call (wr := []) Y Z hl hw (C_clearBuffer l hT Δ  h6) wd_727 wd_728 wd_729 wd_19 wd_730 ok_X6_clearBuffer rfl rfl (rest := [.int (2 * er)]) rfl (Nat.le_of_ble_eq_true rfl) ⟨Nat.le_of_ble_eq_true rfl, Nat.le_of_ble_eq_true rfl⟩ ⟨Nat.le_of_ble_eq_true rfl, Nat.le_of_ble_eq_true rfl⟩ (c1 := 51) (s1 := 447) rfl rfl dL_errorOf_71 (fun ws H locs hw Z => ?_)
  refine lv_if_ne (tgt := 81) X.x X.b dL_errorOf_74 (by decide) (fun h => absurd h (by decide)) (fun _ => ?_)
  refine lv_iconst (v := 1) X.x X.b dL_errorOf_77 ki_1 ?_
  refine lv_goto (tgt := 82) X.x X.b dL_errorOf_78 (by decide) ?_
  refine lv_iadd X.x X.b dL_errorOf_82 ?_
  rw [show ((2 * er) + 1) = r from hr]
  exact x_iret X Z.none ⟨rfl, rfl⟩ (Nat.le_of_ble_eq_true rfl) (Nat.le_of_ble_eq_true rfl) dL_errorOf_83
