set_option maxRecDepth 100000 in
set_option maxHeartbeats 4000000 in
theorem mX4_init (l : Launch) (Δ : zE) (h0 : Nat) : zMC l Δ yX4_init (.code yX4_init cX4_init 1 none) 1 12 4 80 [.ref h0] [(h0, .inr (4, [.int 0, .null, .null, .null, .null]))] (fun rv w1 => rv = none ∧ ∃ ad : Nat → Nat, ad 0 = h0 ∧ w1 = (wX4 Δ ad 0 (fun _ => 0) (fun _ => 0) (fun _ => 0) (fun _ => 0))) := by
  refine c_start (by decide +kernel) (Nat.le_of_ble_eq_true rfl) ?_
  intro p e s m args below meth c A ls X Z hl
  have hl : lv_has ls 1 [(0, .ref h0)] := hl
  have ⟨locs, hlocs⟩ : ∃ l : List Loc, l = [] := ⟨_, rfl⟩
  rw [← hlocs] at Z ⊢
  refine lv_aload_n X.x X.b dX4_init_0 rfl (lv_at hl 0 rfl) ?_
  refine c_objInit X hl wd_54 wd_41 wd_42 dX4_init_1 (Nat.le_of_ble_eq_true rfl) (Nat.le_of_ble_eq_true rfl) ?_
  refine lv_aload_n X.x X.b dX4_init_4 rfl (lv_at hl 0 rfl) ?_
  refine lv_bipush (v := 20) X.x X.b dX4_init_5 kb_20 ?_
  refine c_newaI (N' := 20) X Z wd_77 (by decide) (by decide) (by decide) (Nat.le_of_ble_eq_true rfl) (Nat.le_of_ble_eq_true rfl) dX4_init_7 (fun q1 H Z => ?_)
  have Z : zW Δ A s.heap ([(h0, .inr (4, [.int 0, .null, .null, .null, .null]))] ++ [(q1, .inl (Δ.2.1, 20, .inl (fun _ => 0)))]) _ _ := Z
  refine c_pfF (w' := ([(h0, .inr (4, [.int 0, .ref q1, .null, .null, .null]))] ++ [(q1, .inl (Δ.2.1, 20, .inl (fun _ => 0)))])) inG_X4 (ci := 4) rfl tyX4 tyX4_ok nmX4 1 (Nat.le_of_ble_eq_true rfl) rfl rfl X rfl rfl Z wd_58 0 rfl rfl rfl (Nat.le_of_ble_eq_true rfl) rfl dX4_init_9 (fun H locs Z => ?_)
  refine lv_aload_n X.x X.b dX4_init_12 rfl (lv_at hl 0 rfl) ?_
  refine lv_bipush (v := 20) X.x X.b dX4_init_13 kb_20 ?_
  refine c_newaI (N' := 20) X Z wd_77 (by decide) (by decide) (by decide) (Nat.le_of_ble_eq_true rfl) (Nat.le_of_ble_eq_true rfl) dX4_init_15 (fun q2 H Z => ?_)
  have Z : zW Δ A s.heap (([(h0, .inr (4, [.int 0, .ref q1, .null, .null, .null]))] ++ [(q1, .inl (Δ.2.1, 20, .inl (fun _ => 0)))]) ++ [(q2, .inl (Δ.2.1, 20, .inl (fun _ => 0)))]) _ _ := Z
  refine c_pfF (w' := (([(h0, .inr (4, [.int 0, .ref q1, .ref q2, .null, .null]))] ++ [(q1, .inl (Δ.2.1, 20, .inl (fun _ => 0)))]) ++ [(q2, .inl (Δ.2.1, 20, .inl (fun _ => 0)))])) inG_X4 (ci := 4) rfl tyX4 tyX4_ok nmX4 2 (Nat.le_of_ble_eq_true rfl) rfl rfl X rfl rfl Z wd_60 0 rfl rfl rfl (Nat.le_of_ble_eq_true rfl) rfl dX4_init_17 (fun H locs Z => ?_)
  refine lv_aload_n X.x X.b dX4_init_20 rfl (lv_at hl 0 rfl) ?_
  refine lv_bipush (v := 20) X.x X.b dX4_init_21 kb_20 ?_
  refine c_newaI (N' := 20) X Z wd_77 (by decide) (by decide) (by decide) (Nat.le_of_ble_eq_true rfl) (Nat.le_of_ble_eq_true rfl) dX4_init_23 (fun q3 H Z => ?_)
  have Z : zW Δ A s.heap ((([(h0, .inr (4, [.int 0, .ref q1, .ref q2, .null, .null]))] ++ [(q1, .inl (Δ.2.1, 20, .inl (fun _ => 0)))]) ++ [(q2, .inl (Δ.2.1, 20, .inl (fun _ => 0)))]) ++ [(q3, .inl (Δ.2.1, 20, .inl (fun _ => 0)))]) _ _ := Z
  refine c_pfF (w' := ((([(h0, .inr (4, [.int 0, .ref q1, .ref q2, .ref q3, .null]))] ++ [(q1, .inl (Δ.2.1, 20, .inl (fun _ => 0)))]) ++ [(q2, .inl (Δ.2.1, 20, .inl (fun _ => 0)))]) ++ [(q3, .inl (Δ.2.1, 20, .inl (fun _ => 0)))])) inG_X4 (ci := 4) rfl tyX4 tyX4_ok nmX4 3 (Nat.le_of_ble_eq_true rfl) rfl rfl X rfl rfl Z wd_62 0 rfl rfl rfl (Nat.le_of_ble_eq_true rfl) rfl dX4_init_25 (fun H locs Z => ?_)
  refine lv_aload_n X.x X.b dX4_init_28 rfl (lv_at hl 0 rfl) ?_
  refine lv_bipush (v := 20) X.x X.b dX4_init_29 kb_20 ?_
  refine c_newaI (N' := 20) X Z wd_77 (by decide) (by decide) (by decide) (Nat.le_of_ble_eq_true rfl) (Nat.le_of_ble_eq_true rfl) dX4_init_31 (fun q4 H Z => ?_)
  have Z : zW Δ A s.heap (((([(h0, .inr (4, [.int 0, .ref q1, .ref q2, .ref q3, .null]))] ++ [(q1, .inl (Δ.2.1, 20, .inl (fun _ => 0)))]) ++ [(q2, .inl (Δ.2.1, 20, .inl (fun _ => 0)))]) ++ [(q3, .inl (Δ.2.1, 20, .inl (fun _ => 0)))]) ++ [(q4, .inl (Δ.2.1, 20, .inl (fun _ => 0)))]) _ _ := Z
  refine c_pfF (w' := (((([(h0, .inr (4, [.int 0, .ref q1, .ref q2, .ref q3, .ref q4]))] ++ [(q1, .inl (Δ.2.1, 20, .inl (fun _ => 0)))]) ++ [(q2, .inl (Δ.2.1, 20, .inl (fun _ => 0)))]) ++ [(q3, .inl (Δ.2.1, 20, .inl (fun _ => 0)))]) ++ [(q4, .inl (Δ.2.1, 20, .inl (fun _ => 0)))])) inG_X4 (ci := 4) rfl tyX4 tyX4_ok nmX4 4 (Nat.le_of_ble_eq_true rfl) rfl rfl X rfl rfl Z wd_64 0 rfl rfl rfl (Nat.le_of_ble_eq_true rfl) rfl dX4_init_33 (fun H locs Z => ?_)
  have Z : zW Δ A s.heap (wX4 Δ (zAd [h0, q1, q2, q3, q4]) 0 (fun _ => 0) (fun _ => 0) (fun _ => 0) (fun _ => 0)) _ _ := Z
  exact c_vret X Z ⟨rfl, _, rfl, rfl⟩ (Nat.le_of_ble_eq_true rfl) (Nat.le_of_ble_eq_true rfl) dX4_init_36
set_option maxRecDepth 100000 in
set_option maxHeartbeats 4000000 in
theorem mX0_init (l : Launch) (Δ : zE) (h0 : Nat) : zMC l Δ yX0_init (.code yX0_init cX0_init 1 none) 1 12 5 30 [.ref h0] [(h0, .inr (0, [.null, .null, .null, .null, .null]))] (fun rv w1 => rv = none ∧ ∃ ad : Nat → Nat, ad 0 = h0 ∧ w1 = (wX0 Δ ad (fun _ => 0) (fun _ => 0) (fun _ => 0) (fun _ => 0) (fun _ => 0))) := by
  refine c_start (by decide +kernel) (Nat.le_of_ble_eq_true rfl) ?_
  intro p e s m args below meth c A ls X Z hl
  have hl : lv_has ls 1 [(0, .ref h0)] := hl
  have ⟨locs, hlocs⟩ : ∃ l : List Loc, l = [] := ⟨_, rfl⟩
  rw [← hlocs] at Z ⊢
  refine lv_aload_n X.x X.b dX0_init_0 rfl (lv_at hl 0 rfl) ?_
  refine c_objInit X hl wd_83 wd_41 wd_42 dX0_init_1 (Nat.le_of_ble_eq_true rfl) (Nat.le_of_ble_eq_true rfl) ?_
  refine lv_aload_n X.x X.b dX0_init_4 rfl (lv_at hl 0 rfl) ?_
  refine lv_bipush (v := 6) X.x X.b dX0_init_5 kb_6 ?_
  refine c_newaI (N' := 6) X Z wd_77 (by decide) (by decide) (by decide) (Nat.le_of_ble_eq_true rfl) (Nat.le_of_ble_eq_true rfl) dX0_init_7 (fun q1 H Z => ?_)
  have Z : zW Δ A s.heap ([(h0, .inr (0, [.null, .null, .null, .null, .null]))] ++ [(q1, .inl (Δ.2.1, 6, .inl (fun _ => 0)))]) _ _ := Z
  refine c_pfF (w' := ([(h0, .inr (0, [.ref q1, .null, .null, .null, .null]))] ++ [(q1, .inl (Δ.2.1, 6, .inl (fun _ => 0)))])) inG_X0 (ci := 0) rfl tyX0 tyX0_ok nmX0 0 (Nat.le_of_ble_eq_true rfl) rfl rfl X rfl rfl Z wd_84 0 rfl rfl rfl (Nat.le_of_ble_eq_true rfl) rfl dX0_init_9 (fun H locs Z => ?_)
  refine lv_aload_n X.x X.b dX0_init_12 rfl (lv_at hl 0 rfl) ?_
  refine lv_bipush (v := 6) X.x X.b dX0_init_13 kb_6 ?_
  refine c_newaI (N' := 6) X Z wd_77 (by decide) (by decide) (by decide) (Nat.le_of_ble_eq_true rfl) (Nat.le_of_ble_eq_true rfl) dX0_init_15 (fun q2 H Z => ?_)
  have Z : zW Δ A s.heap (([(h0, .inr (0, [.ref q1, .null, .null, .null, .null]))] ++ [(q1, .inl (Δ.2.1, 6, .inl (fun _ => 0)))]) ++ [(q2, .inl (Δ.2.1, 6, .inl (fun _ => 0)))]) _ _ := Z
  refine c_pfF (w' := (([(h0, .inr (0, [.ref q1, .ref q2, .null, .null, .null]))] ++ [(q1, .inl (Δ.2.1, 6, .inl (fun _ => 0)))]) ++ [(q2, .inl (Δ.2.1, 6, .inl (fun _ => 0)))])) inG_X0 (ci := 0) rfl tyX0 tyX0_ok nmX0 1 (Nat.le_of_ble_eq_true rfl) rfl rfl X rfl rfl Z wd_86 0 rfl rfl rfl (Nat.le_of_ble_eq_true rfl) rfl dX0_init_17 (fun H locs Z => ?_)
  refine lv_aload_n X.x X.b dX0_init_20 rfl (lv_at hl 0 rfl) ?_
  refine lv_bipush (v := 6) X.x X.b dX0_init_21 kb_6 ?_
  refine c_newaI (N' := 6) X Z wd_77 (by decide) (by decide) (by decide) (Nat.le_of_ble_eq_true rfl) (Nat.le_of_ble_eq_true rfl) dX0_init_23 (fun q3 H Z => ?_)
  have Z : zW Δ A s.heap ((([(h0, .inr (0, [.ref q1, .ref q2, .null, .null, .null]))] ++ [(q1, .inl (Δ.2.1, 6, .inl (fun _ => 0)))]) ++ [(q2, .inl (Δ.2.1, 6, .inl (fun _ => 0)))]) ++ [(q3, .inl (Δ.2.1, 6, .inl (fun _ => 0)))]) _ _ := Z
  refine c_pfF (w' := ((([(h0, .inr (0, [.ref q1, .ref q2, .ref q3, .null, .null]))] ++ [(q1, .inl (Δ.2.1, 6, .inl (fun _ => 0)))]) ++ [(q2, .inl (Δ.2.1, 6, .inl (fun _ => 0)))]) ++ [(q3, .inl (Δ.2.1, 6, .inl (fun _ => 0)))])) inG_X0 (ci := 0) rfl tyX0 tyX0_ok nmX0 2 (Nat.le_of_ble_eq_true rfl) rfl rfl X rfl rfl Z wd_88 0 rfl rfl rfl (Nat.le_of_ble_eq_true rfl) rfl dX0_init_25 (fun H locs Z => ?_)
  refine lv_aload_n X.x X.b dX0_init_28 rfl (lv_at hl 0 rfl) ?_
  refine lv_bipush (v := 6) X.x X.b dX0_init_29 kb_6 ?_
  refine c_newaI (N' := 6) X Z wd_77 (by decide) (by decide) (by decide) (Nat.le_of_ble_eq_true rfl) (Nat.le_of_ble_eq_true rfl) dX0_init_31 (fun q4 H Z => ?_)
  have Z : zW Δ A s.heap (((([(h0, .inr (0, [.ref q1, .ref q2, .ref q3, .null, .null]))] ++ [(q1, .inl (Δ.2.1, 6, .inl (fun _ => 0)))]) ++ [(q2, .inl (Δ.2.1, 6, .inl (fun _ => 0)))]) ++ [(q3, .inl (Δ.2.1, 6, .inl (fun _ => 0)))]) ++ [(q4, .inl (Δ.2.1, 6, .inl (fun _ => 0)))]) _ _ := Z
  refine c_pfF (w' := (((([(h0, .inr (0, [.ref q1, .ref q2, .ref q3, .ref q4, .null]))] ++ [(q1, .inl (Δ.2.1, 6, .inl (fun _ => 0)))]) ++ [(q2, .inl (Δ.2.1, 6, .inl (fun _ => 0)))]) ++ [(q3, .inl (Δ.2.1, 6, .inl (fun _ => 0)))]) ++ [(q4, .inl (Δ.2.1, 6, .inl (fun _ => 0)))])) inG_X0 (ci := 0) rfl tyX0 tyX0_ok nmX0 3 (Nat.le_of_ble_eq_true rfl) rfl rfl X rfl rfl Z wd_90 0 rfl rfl rfl (Nat.le_of_ble_eq_true rfl) rfl dX0_init_33 (fun H locs Z => ?_)
  refine lv_aload_n X.x X.b dX0_init_36 rfl (lv_at hl 0 rfl) ?_
  refine lv_bipush (v := 6) X.x X.b dX0_init_37 kb_6 ?_
  refine c_newaI (N' := 6) X Z wd_77 (by decide) (by decide) (by decide) (Nat.le_of_ble_eq_true rfl) (Nat.le_of_ble_eq_true rfl) dX0_init_39 (fun q5 H Z => ?_)
  have Z : zW Δ A s.heap ((((([(h0, .inr (0, [.ref q1, .ref q2, .ref q3, .ref q4, .null]))] ++ [(q1, .inl (Δ.2.1, 6, .inl (fun _ => 0)))]) ++ [(q2, .inl (Δ.2.1, 6, .inl (fun _ => 0)))]) ++ [(q3, .inl (Δ.2.1, 6, .inl (fun _ => 0)))]) ++ [(q4, .inl (Δ.2.1, 6, .inl (fun _ => 0)))]) ++ [(q5, .inl (Δ.2.1, 6, .inl (fun _ => 0)))]) _ _ := Z
  refine c_pfF (w' := ((((([(h0, .inr (0, [.ref q1, .ref q2, .ref q3, .ref q4, .ref q5]))] ++ [(q1, .inl (Δ.2.1, 6, .inl (fun _ => 0)))]) ++ [(q2, .inl (Δ.2.1, 6, .inl (fun _ => 0)))]) ++ [(q3, .inl (Δ.2.1, 6, .inl (fun _ => 0)))]) ++ [(q4, .inl (Δ.2.1, 6, .inl (fun _ => 0)))]) ++ [(q5, .inl (Δ.2.1, 6, .inl (fun _ => 0)))])) inG_X0 (ci := 0) rfl tyX0 tyX0_ok nmX0 4 (Nat.le_of_ble_eq_true rfl) rfl rfl X rfl rfl Z wd_92 0 rfl rfl rfl (Nat.le_of_ble_eq_true rfl) rfl dX0_init_41 (fun H locs Z => ?_)
  have Z : zW Δ A s.heap (wX0 Δ (zAd [h0, q1, q2, q3, q4, q5]) (fun _ => 0) (fun _ => 0) (fun _ => 0) (fun _ => 0) (fun _ => 0)) _ _ := Z
  exact c_vret X Z ⟨rfl, _, rfl, rfl⟩ (Nat.le_of_ble_eq_true rfl) (Nat.le_of_ble_eq_true rfl) dX0_init_44
set_option maxRecDepth 100000 in
set_option maxHeartbeats 4000000 in
theorem mX1_init (l : Launch) (Δ : zE) (h0 : Nat) : zMC l Δ yX1_init (.code yX1_init cX1_init 1 none) 1 12 0 0 [.ref h0] [(h0, .inr (1, [.int 0, .int 0, .int 0, .int 0]))] (fun rv w1 => rv = none ∧ ∃ ad : Nat → Nat, ad 0 = h0 ∧ w1 = (wX1 Δ ad 0 0 0 0)) := by
  refine c_start (by decide +kernel) (Nat.le_of_ble_eq_true rfl) ?_
  intro p e s m args below meth c A ls X Z hl
  have hl : lv_has ls 1 [(0, .ref h0)] := hl
  have ⟨locs, hlocs⟩ : ∃ l : List Loc, l = [] := ⟨_, rfl⟩
  rw [← hlocs] at Z ⊢
  refine lv_aload_n X.x X.b dX1_init_0 rfl (lv_at hl 0 rfl) ?_
  refine c_objInit X hl wd_154 wd_41 wd_42 dX1_init_1 (Nat.le_of_ble_eq_true rfl) (Nat.le_of_ble_eq_true rfl) ?_
  have Z : zW Δ A s.heap (wX1 Δ (zAd [h0]) 0 0 0 0) _ _ := Z
  exact c_vret X Z ⟨rfl, _, rfl, rfl⟩ (Nat.le_of_ble_eq_true rfl) (Nat.le_of_ble_eq_true rfl) dX1_init_4
set_option maxRecDepth 100000 in
set_option maxHeartbeats 4000000 in
theorem mX5_init (l : Launch) (Δ : zE) (h0 : Nat) : zMC l Δ yX5_init (.code yX5_init cX5_init 1 none) 2 32 2 64 [.ref h0] [(h0, .inr (5, [.null, .int 0, .null]))] (fun rv w1 => rv = none ∧ ∃ ad : Nat → Nat, ad 0 = h0 ∧ w1 = (wX5 Δ ad 0 (fun _ => 0) 0 0 0 0)) := by
  refine c_start (by decide +kernel) (Nat.le_of_ble_eq_true rfl) ?_
  intro p e s m args below meth c A ls X Z hl
  have hl : lv_has ls 1 [(0, .ref h0)] := hl
  have ⟨locs, hlocs⟩ : ∃ l : List Loc, l = [] := ⟨_, rfl⟩
  rw [← hlocs] at Z ⊢
  refine lv_aload_n X.x X.b dX5_init_0 rfl (lv_at hl 0 rfl) ?_
  refine c_objInit X hl wd_148 wd_41 wd_42 dX5_init_1 (Nat.le_of_ble_eq_true rfl) (Nat.le_of_ble_eq_true rfl) ?_
  refine lv_aload_n X.x X.b dX5_init_4 rfl (lv_at hl 0 rfl) ?_
  refine lv_bipush (v := 60) X.x X.b dX5_init_5 kb_60 ?_
  refine c_newaI (N' := 60) X Z wd_77 (by decide) (by decide) (by decide) (Nat.le_of_ble_eq_true rfl) (Nat.le_of_ble_eq_true rfl) dX5_init_7 (fun q1 H Z => ?_)
  have Z : zW Δ A s.heap ([(h0, .inr (5, [.null, .int 0, .null]))] ++ [(q1, .inl (Δ.2.1, 60, .inl (fun _ => 0)))]) _ _ := Z
  refine c_pfF (w' := ([(h0, .inr (5, [.ref q1, .int 0, .null]))] ++ [(q1, .inl (Δ.2.1, 60, .inl (fun _ => 0)))])) inG_X5 (ci := 5) rfl tyX5 tyX5_ok nmX5 0 (Nat.le_of_ble_eq_true rfl) rfl rfl X rfl rfl Z wd_171 0 rfl rfl rfl (Nat.le_of_ble_eq_true rfl) rfl dX5_init_9 (fun H locs Z => ?_)
  refine lv_aload_n X.x X.b dX5_init_12 rfl (lv_at hl 0 rfl) ?_
  refine c_new (fs := [.int 0, .int 0, .int 0, .int 0]) inG_X1 (ci := 1) rfl tyX1 tyX1_ok (fun j hj => by match j, hj with | 0, _ => rfl | 1, _ => rfl | 2, _ => rfl | 3, _ => rfl | j + 4, hj => exact absurd hj (by omega)) X Z wd_149 wd_150 wd_25 (Nat.le_of_ble_eq_true rfl) (Nat.le_of_ble_eq_true rfl) dX5_init_13 (fun q2 H Z => ?_)
  have Z : zW Δ A s.heap (([(h0, .inr (5, [.ref q1, .int 0, .null]))] ++ [(q1, .inl (Δ.2.1, 60, .inl (fun _ => 0)))]) ++ [(q2, .inr (1, [.int 0, .int 0, .int 0, .int 0]))]) _ _ := Z
  refine lv_dup X.x X.b dX5_init_16 rfl ?_
  refine c_callIN (host := "SerialRecaps") X Z hl (mX1_init l Δ q2) (by exact zNw_of 151 (by decide +kernel) (by decide +kernel)) wd_152 wd_25 wd_153 ok_X1_init rfl (wr := ([(h0, .inr (5, [.ref q1, .int 0, .null]))] ++ [(q1, .inl (Δ.2.1, 60, .inl (fun _ => 0)))])) List.perm_append_comm rfl (rest := [.ref q2, .ref h0]) rfl (Nat.le_of_ble_eq_true rfl) ⟨Nat.le_of_ble_eq_true rfl, Nat.le_of_ble_eq_true rfl⟩ ⟨Nat.le_of_ble_eq_true rfl, Nat.le_of_ble_eq_true rfl⟩ dX5_init_17 (fun rv w1 H locs hP Z9 => ?_)
  obtain ⟨rfl, aq2, ha, rfl⟩ := hP
  subst ha
  refine W.eq (g2 := F0 m 20 ls [.ref (aq2 0), .ref h0]) rfl ?_
  have Z : zW Δ A s.heap ((wX1 Δ aq2 0 0 0 0) ++ ([(h0, .inr (5, [.ref q1, .int 0, .null]))] ++ [(q1, .inl (Δ.2.1, 60, .inl (fun _ => 0)))])) _ _ := Z9
  refine c_pfF (w' := ((wX1 Δ aq2 0 0 0 0) ++ ([(h0, .inr (5, [.ref q1, .int 0, .ref (aq2 0)]))] ++ [(q1, .inl (Δ.2.1, 60, .inl (fun _ => 0)))]))) inG_X5 (ci := 5) rfl tyX5 tyX5_ok nmX5 2 (Nat.le_of_ble_eq_true rfl) rfl rfl X rfl rfl Z wd_175 1 rfl rfl rfl (Nat.le_of_ble_eq_true rfl) rfl dX5_init_20 (fun H locs Z => ?_)
  have Z : zW Δ A s.heap (([(h0, .inr (5, [.ref q1, .int 0, .ref (aq2 0)]))] ++ [(q1, .inl (Δ.2.1, 60, .inl (fun _ => 0)))]) ++ (wX1 Δ aq2 0 0 0 0)) _ _ := Z.perm (zPerm (fun x => by simp only [List.count_append]; omega))
  have Z : zW Δ A s.heap (wX5 Δ (zAd [h0, q1, aq2 0]) 0 (fun _ => 0) 0 0 0 0) _ _ := Z
  exact c_vret X Z ⟨rfl, _, rfl, rfl⟩ (Nat.le_of_ble_eq_true rfl) (Nat.le_of_ble_eq_true rfl) dX5_init_23
set_option maxRecDepth 100000 in
set_option maxHeartbeats 4000000 in
theorem mX3_init (l : Launch) (Δ : zE) (h0 : Nat) : zMC l Δ yX3_init (.code yX3_init cX3_init 1 none) 2 32 12 122 [.ref h0] [(h0, .inr (3, [.null, .null, .null, .int 0, .int 0]))] (fun rv w1 => rv = none ∧ ∃ ad : Nat → Nat, ad 0 = h0 ∧ w1 = (wX3 Δ ad 0 0 0 (fun _ => 0) (fun _ => 0) (fun _ => 0) (fun _ => 0) (fun _ => 0) (fun _ => 0) (fun _ => 0) (fun _ => 0) (fun _ => 0) (upd (upd (fun _ => 0) (0 : Int32).toNatClampNeg 4) (1 : Int32).toNatClampNeg 10))) := by
  refine c_start (by decide +kernel) (Nat.le_of_ble_eq_true rfl) ?_
  intro p e s m args below meth c A ls X Z hl
  have hl : lv_has ls 1 [(0, .ref h0)] := hl
  have ⟨locs, hlocs⟩ : ∃ l : List Loc, l = [] := ⟨_, rfl⟩
  rw [← hlocs] at Z ⊢
  refine lv_aload_n X.x X.b dX3_init_0 rfl (lv_at hl 0 rfl) ?_
  refine c_objInit X hl wd_48 wd_41 wd_42 dX3_init_1 (Nat.le_of_ble_eq_true rfl) (Nat.le_of_ble_eq_true rfl) ?_
  refine lv_aload_n X.x X.b dX3_init_4 rfl (lv_at hl 0 rfl) ?_
  refine c_new (fs := [.int 0, .null, .null, .null, .null]) inG_X4 (ci := 4) rfl tyX4 tyX4_ok (fun j hj => by match j, hj with | 0, _ => rfl | 1, _ => rfl | 2, _ => rfl | 3, _ => rfl | 4, _ => rfl | j + 5, hj => exact absurd hj (by omega)) X Z wd_49 wd_50 wd_21 (Nat.le_of_ble_eq_true rfl) (Nat.le_of_ble_eq_true rfl) dX3_init_5 (fun q1 H Z => ?_)
  have Z : zW Δ A s.heap ([(h0, .inr (3, [.null, .null, .null, .int 0, .int 0]))] ++ [(q1, .inr (4, [.int 0, .null, .null, .null, .null]))]) _ _ := Z
  refine lv_dup X.x X.b dX3_init_8 rfl ?_
  refine c_callIN (host := "SerialRecaps") X Z hl (mX4_init l Δ q1) (by exact zNw_of 51 (by decide +kernel) (by decide +kernel)) wd_52 wd_21 wd_53 ok_X4_init rfl (wr := [(h0, .inr (3, [.null, .null, .null, .int 0, .int 0]))]) List.perm_append_comm rfl (rest := [.ref q1, .ref h0]) rfl (Nat.le_of_ble_eq_true rfl) ⟨Nat.le_of_ble_eq_true rfl, Nat.le_of_ble_eq_true rfl⟩ ⟨Nat.le_of_ble_eq_true rfl, Nat.le_of_ble_eq_true rfl⟩ dX3_init_9 (fun rv w1 H locs hP Z9 => ?_)
  obtain ⟨rfl, aq1, ha, rfl⟩ := hP
  subst ha
  refine W.eq (g2 := F0 m 12 ls [.ref (aq1 0), .ref h0]) rfl ?_
  have Z : zW Δ A s.heap ((wX4 Δ aq1 0 (fun _ => 0) (fun _ => 0) (fun _ => 0) (fun _ => 0)) ++ [(h0, .inr (3, [.null, .null, .null, .int 0, .int 0]))]) _ _ := Z9
  refine c_pfF (w' := ((wX4 Δ aq1 0 (fun _ => 0) (fun _ => 0) (fun _ => 0) (fun _ => 0)) ++ [(h0, .inr (3, [.ref (aq1 0), .null, .null, .int 0, .int 0]))])) inG_X3 (ci := 3) rfl tyX3 tyX3_ok nmX3 0 (Nat.le_of_ble_eq_true rfl) rfl rfl X rfl rfl Z wd_105 5 rfl rfl rfl (Nat.le_of_ble_eq_true rfl) rfl dX3_init_12 (fun H locs Z => ?_)
  refine lv_aload_n X.x X.b dX3_init_15 rfl (lv_at hl 0 rfl) ?_
  refine c_new (fs := [.null, .null, .null, .null, .null]) inG_X0 (ci := 0) rfl tyX0 tyX0_ok (fun j hj => by match j, hj with | 0, _ => rfl | 1, _ => rfl | 2, _ => rfl | 3, _ => rfl | 4, _ => rfl | j + 5, hj => exact absurd hj (by omega)) X Z wd_78 wd_79 wd_22 (Nat.le_of_ble_eq_true rfl) (Nat.le_of_ble_eq_true rfl) dX3_init_16 (fun q2 H Z => ?_)
  have Z : zW Δ A s.heap (((wX4 Δ aq1 0 (fun _ => 0) (fun _ => 0) (fun _ => 0) (fun _ => 0)) ++ [(h0, .inr (3, [.ref (aq1 0), .null, .null, .int 0, .int 0]))]) ++ [(q2, .inr (0, [.null, .null, .null, .null, .null]))]) _ _ := Z
  refine lv_dup X.x X.b dX3_init_19 rfl ?_
  refine c_callIN (host := "SerialRecaps") X Z hl (mX0_init l Δ q2) (by exact zNw_of 80 (by decide +kernel) (by decide +kernel)) wd_81 wd_22 wd_82 ok_X0_init rfl (wr := ((wX4 Δ aq1 0 (fun _ => 0) (fun _ => 0) (fun _ => 0) (fun _ => 0)) ++ [(h0, .inr (3, [.ref (aq1 0), .null, .null, .int 0, .int 0]))])) List.perm_append_comm rfl (rest := [.ref q2, .ref h0]) rfl (Nat.le_of_ble_eq_true rfl) ⟨Nat.le_of_ble_eq_true rfl, Nat.le_of_ble_eq_true rfl⟩ ⟨Nat.le_of_ble_eq_true rfl, Nat.le_of_ble_eq_true rfl⟩ dX3_init_20 (fun rv w1 H locs hP Z9 => ?_)
  obtain ⟨rfl, aq2, ha, rfl⟩ := hP
  subst ha
  refine W.eq (g2 := F0 m 23 ls [.ref (aq2 0), .ref h0]) rfl ?_
  have Z : zW Δ A s.heap ((wX0 Δ aq2 (fun _ => 0) (fun _ => 0) (fun _ => 0) (fun _ => 0) (fun _ => 0)) ++ ((wX4 Δ aq1 0 (fun _ => 0) (fun _ => 0) (fun _ => 0) (fun _ => 0)) ++ [(h0, .inr (3, [.ref (aq1 0), .null, .null, .int 0, .int 0]))])) _ _ := Z9
  refine c_pfF (w' := ((wX0 Δ aq2 (fun _ => 0) (fun _ => 0) (fun _ => 0) (fun _ => 0) (fun _ => 0)) ++ ((wX4 Δ aq1 0 (fun _ => 0) (fun _ => 0) (fun _ => 0) (fun _ => 0)) ++ [(h0, .inr (3, [.ref (aq1 0), .ref (aq2 0), .null, .int 0, .int 0]))]))) inG_X3 (ci := 3) rfl tyX3 tyX3_ok nmX3 1 (Nat.le_of_ble_eq_true rfl) rfl rfl X rfl rfl Z wd_107 11 rfl rfl rfl (Nat.le_of_ble_eq_true rfl) rfl dX3_init_23 (fun H locs Z => ?_)
  refine lv_aload_n X.x X.b dX3_init_26 rfl (lv_at hl 0 rfl) ?_
  refine lv_iconst (v := 2) X.x X.b dX3_init_27 ki_2 ?_
  refine c_newaI (N' := 2) X Z wd_77 (by decide) (by decide) (by decide) (Nat.le_of_ble_eq_true rfl) (Nat.le_of_ble_eq_true rfl) dX3_init_28 (fun q3 H Z => ?_)
  have Z : zW Δ A s.heap (((wX0 Δ aq2 (fun _ => 0) (fun _ => 0) (fun _ => 0) (fun _ => 0) (fun _ => 0)) ++ ((wX4 Δ aq1 0 (fun _ => 0) (fun _ => 0) (fun _ => 0) (fun _ => 0)) ++ [(h0, .inr (3, [.ref (aq1 0), .ref (aq2 0), .null, .int 0, .int 0]))])) ++ [(q3, .inl (Δ.2.1, 2, .inl (fun _ => 0)))]) _ _ := Z
  refine c_pfF (w' := (((wX0 Δ aq2 (fun _ => 0) (fun _ => 0) (fun _ => 0) (fun _ => 0) (fun _ => 0)) ++ ((wX4 Δ aq1 0 (fun _ => 0) (fun _ => 0) (fun _ => 0) (fun _ => 0)) ++ [(h0, .inr (3, [.ref (aq1 0), .ref (aq2 0), .ref q3, .int 0, .int 0]))])) ++ [(q3, .inl (Δ.2.1, 2, .inl (fun _ => 0)))])) inG_X3 (ci := 3) rfl tyX3 tyX3_ok nmX3 2 (Nat.le_of_ble_eq_true rfl) rfl rfl X rfl rfl Z wd_109 11 rfl rfl rfl (Nat.le_of_ble_eq_true rfl) rfl dX3_init_30 (fun H locs Z => ?_)
  refine lv_aload_n X.x X.b dX3_init_33 rfl (lv_at hl 0 rfl) ?_
  refine z_gf inG_X3 (ci := 3) rfl 2 (Nat.le_of_ble_eq_true rfl) rfl X Z wd_109 11 rfl (v := .ref q3) rfl dX3_init_34 ?_
  refine lv_iconst (v := 0) X.x X.b dX3_init_37 ki_0 ?_
  refine lv_iconst (v := 4) X.x X.b dX3_init_38 ki_4 ?_
  refine z_iast (w' := (((wX0 Δ aq2 (fun _ => 0) (fun _ => 0) (fun _ => 0) (fun _ => 0) (fun _ => 0)) ++ ((wX4 Δ aq1 0 (fun _ => 0) (fun _ => 0) (fun _ => 0) (fun _ => 0)) ++ [(h0, .inr (3, [.ref (aq1 0), .ref (aq2 0), .ref q3, .int 0, .int 0]))])) ++ [(q3, .inl (Δ.2.1, 2, .inl (upd (fun _ => 0) (0 : Int32).toNatClampNeg 4)))])) X Z 12 rfl (zvin (by decide)) rfl dX3_init_39 (fun H locs Z => ?_)
  refine lv_aload_n X.x X.b dX3_init_40 rfl (lv_at hl 0 rfl) ?_
  refine z_gf inG_X3 (ci := 3) rfl 2 (Nat.le_of_ble_eq_true rfl) rfl X Z wd_109 11 rfl (v := .ref q3) rfl dX3_init_41 ?_
  refine lv_iconst (v := 1) X.x X.b dX3_init_44 ki_1 ?_
  refine lv_bipush (v := 10) X.x X.b dX3_init_45 kb_10 ?_
  refine z_iast (w' := (((wX0 Δ aq2 (fun _ => 0) (fun _ => 0) (fun _ => 0) (fun _ => 0) (fun _ => 0)) ++ ((wX4 Δ aq1 0 (fun _ => 0) (fun _ => 0) (fun _ => 0) (fun _ => 0)) ++ [(h0, .inr (3, [.ref (aq1 0), .ref (aq2 0), .ref q3, .int 0, .int 0]))])) ++ [(q3, .inl (Δ.2.1, 2, .inl (upd (upd (fun _ => 0) (0 : Int32).toNatClampNeg 4) (1 : Int32).toNatClampNeg 10)))])) X Z 12 rfl (zvin (by decide)) rfl dX3_init_47 (fun H locs Z => ?_)
  have Z : zW Δ A s.heap ((([(h0, .inr (3, [.ref (aq1 0), .ref (aq2 0), .ref q3, .int 0, .int 0]))] ++ (wX4 Δ aq1 0 (fun _ => 0) (fun _ => 0) (fun _ => 0) (fun _ => 0))) ++ (wX0 Δ aq2 (fun _ => 0) (fun _ => 0) (fun _ => 0) (fun _ => 0) (fun _ => 0))) ++ [(q3, .inl (Δ.2.1, 2, .inl (upd (upd (fun _ => 0) (0 : Int32).toNatClampNeg 4) (1 : Int32).toNatClampNeg 10)))]) _ _ := Z.perm (zPerm (fun x => by simp only [List.count_append]; omega))
  have Z : zW Δ A s.heap (wX3 Δ (zAd [h0, aq1 0, aq1 1, aq1 2, aq1 3, aq1 4, aq2 0, aq2 1, aq2 2, aq2 3, aq2 4, aq2 5, q3]) 0 0 0 (fun _ => 0) (fun _ => 0) (fun _ => 0) (fun _ => 0) (fun _ => 0) (fun _ => 0) (fun _ => 0) (fun _ => 0) (fun _ => 0) (upd (upd (fun _ => 0) (0 : Int32).toNatClampNeg 4) (1 : Int32).toNatClampNeg 10)) _ _ := Z
  exact c_vret X Z ⟨rfl, _, rfl, rfl⟩ (Nat.le_of_ble_eq_true rfl) (Nat.le_of_ble_eq_true rfl) dX3_init_48
set_option maxRecDepth 100000 in
set_option maxHeartbeats 4000000 in
theorem mX2_init (l : Launch) (Δ : zE) (h0 : Nat) : zMC l Δ yX2_init (.code yX2_init cX2_init 1 none) 1 12 1 6 [.ref h0] [(h0, .inr (2, [.null, .int 0, .int 0]))] (fun rv w1 => rv = none ∧ ∃ ad : Nat → Nat, ad 0 = h0 ∧ w1 = (wX2 Δ ad 0 0 (fun _ => none))) := by
  refine c_start (by decide +kernel) (Nat.le_of_ble_eq_true rfl) ?_
  intro p e s m args below meth c A ls X Z hl
  have hl : lv_has ls 1 [(0, .ref h0)] := hl
  have ⟨locs, hlocs⟩ : ∃ l : List Loc, l = [] := ⟨_, rfl⟩
  rw [← hlocs] at Z ⊢
  refine lv_aload_n X.x X.b dX2_init_0 rfl (lv_at hl 0 rfl) ?_
  refine c_objInit X hl wd_129 wd_41 wd_42 dX2_init_1 (Nat.le_of_ble_eq_true rfl) (Nat.le_of_ble_eq_true rfl) ?_
  refine lv_aload_n X.x X.b dX2_init_4 rfl (lv_at hl 0 rfl) ?_
  refine lv_bipush (v := 6) X.x X.b dX2_init_5 kb_6 ?_
  refine c_newaQ (N' := 6) X Z wd_130 (by decide) (by decide) (by decide) (Nat.le_of_ble_eq_true rfl) (Nat.le_of_ble_eq_true rfl) dX2_init_7 (fun q1 H Z => ?_)
  have Z : zW Δ A s.heap ([(h0, .inr (2, [.null, .int 0, .int 0]))] ++ [(q1, .inl (Δ.2.2.2.2, 6, .inr (.inr (.inr (.inr (fun _ => none))))))]) _ _ := Z
  refine c_pfF (w' := ([(h0, .inr (2, [.ref q1, .int 0, .int 0]))] ++ [(q1, .inl (Δ.2.2.2.2, 6, .inr (.inr (.inr (.inr (fun _ => none))))))])) inG_X2 (ci := 2) rfl tyX2 tyX2_ok nmX2 0 (Nat.le_of_ble_eq_true rfl) rfl rfl X rfl rfl Z wd_132 0 rfl rfl rfl (Nat.le_of_ble_eq_true rfl) rfl dX2_init_10 (fun H locs Z => ?_)
  have Z : zW Δ A s.heap (wX2 Δ (zAd [h0, q1]) 0 0 (fun _ => none)) _ _ := Z
  exact c_vret X Z ⟨rfl, _, rfl, rfl⟩ (Nat.le_of_ble_eq_true rfl) (Nat.le_of_ble_eq_true rfl) dX2_init_13
set_option maxRecDepth 100000 in
set_option maxHeartbeats 4000000 in
theorem mX6_init (l : Launch) (Δ : zE) (h0 : Nat) : zMC l Δ yX6_init (.code yX6_init cX6_init 1 none) 3 52 18 203 [.ref h0] [(h0, .inr (6, [.null, .null, .null]))] (fun rv w1 => rv = none ∧ ∃ ad : Nat → Nat, ad 0 = h0 ∧ w1 = (wX6 Δ ad 0 0 0 (fun _ => 0) (fun _ => 0) (fun _ => 0) (fun _ => 0) (fun _ => 0) (fun _ => 0) (fun _ => 0) (fun _ => 0) (fun _ => 0) (upd (upd (fun _ => 0) (0 : Int32).toNatClampNeg 4) (1 : Int32).toNatClampNeg 10) 0 0 (fun _ => none) 0 (fun _ => 0) 0 0 0 0)) := by
  refine c_start (by decide +kernel) (Nat.le_of_ble_eq_true rfl) ?_
  intro p e s m args below meth c A ls X Z hl
  have hl : lv_has ls 1 [(0, .ref h0)] := hl
  have ⟨locs, hlocs⟩ : ∃ l : List Loc, l = [] := ⟨_, rfl⟩
  rw [← hlocs] at Z ⊢
  refine lv_aload_n X.x X.b dX6_init_0 rfl (lv_at hl 0 rfl) ?_
  refine c_objInit X hl wd_40 wd_41 wd_42 dX6_init_1 (Nat.le_of_ble_eq_true rfl) (Nat.le_of_ble_eq_true rfl) ?_
  refine lv_aload_n X.x X.b dX6_init_4 rfl (lv_at hl 0 rfl) ?_
  refine c_new (fs := [.null, .null, .null, .int 0, .int 0]) inG_X3 (ci := 3) rfl tyX3 tyX3_ok (fun j hj => by match j, hj with | 0, _ => rfl | 1, _ => rfl | 2, _ => rfl | 3, _ => rfl | 4, _ => rfl | j + 5, hj => exact absurd hj (by omega)) X Z wd_43 wd_44 wd_20 (Nat.le_of_ble_eq_true rfl) (Nat.le_of_ble_eq_true rfl) dX6_init_5 (fun q1 H Z => ?_)
  have Z : zW Δ A s.heap ([(h0, .inr (6, [.null, .null, .null]))] ++ [(q1, .inr (3, [.null, .null, .null, .int 0, .int 0]))]) _ _ := Z
  refine lv_dup X.x X.b dX6_init_8 rfl ?_
  refine c_callI X Z hl (mX3_init l Δ q1) wd_45 wd_46 wd_20 wd_47 ok_X3_init rfl (wr := [(h0, .inr (6, [.null, .null, .null]))]) List.perm_append_comm rfl (rest := [.ref q1, .ref h0]) rfl (Nat.le_of_ble_eq_true rfl) ⟨Nat.le_of_ble_eq_true rfl, Nat.le_of_ble_eq_true rfl⟩ ⟨Nat.le_of_ble_eq_true rfl, Nat.le_of_ble_eq_true rfl⟩ dX6_init_9 (fun rv w1 H locs hP Z9 => ?_)
  obtain ⟨rfl, aq1, ha, rfl⟩ := hP
  subst ha
  refine W.eq (g2 := F0 m 12 ls [.ref (aq1 0), .ref h0]) rfl ?_
  have Z : zW Δ A s.heap ((wX3 Δ aq1 0 0 0 (fun _ => 0) (fun _ => 0) (fun _ => 0) (fun _ => 0) (fun _ => 0) (fun _ => 0) (fun _ => 0) (fun _ => 0) (fun _ => 0) (upd (upd (fun _ => 0) (0 : Int32).toNatClampNeg 4) (1 : Int32).toNatClampNeg 10)) ++ [(h0, .inr (6, [.null, .null, .null]))]) _ _ := Z9
  refine c_pfF (w' := ((wX3 Δ aq1 0 0 0 (fun _ => 0) (fun _ => 0) (fun _ => 0) (fun _ => 0) (fun _ => 0) (fun _ => 0) (fun _ => 0) (fun _ => 0) (fun _ => 0) (upd (upd (fun _ => 0) (0 : Int32).toNatClampNeg 4) (1 : Int32).toNatClampNeg 10)) ++ [(h0, .inr (6, [.ref (aq1 0), .null, .null]))])) inG_X6 (ci := 6) rfl tyX6 tyX6_ok nmX6 0 (Nat.le_of_ble_eq_true rfl) rfl rfl X rfl rfl Z wd_183 13 rfl rfl rfl (Nat.le_of_ble_eq_true rfl) rfl dX6_init_12 (fun H locs Z => ?_)
  refine lv_aload_n X.x X.b dX6_init_15 rfl (lv_at hl 0 rfl) ?_
  refine c_new (fs := [.null, .int 0, .int 0]) inG_X2 (ci := 2) rfl tyX2 tyX2_ok (fun j hj => by match j, hj with | 0, _ => rfl | 1, _ => rfl | 2, _ => rfl | j + 3, hj => exact absurd hj (by omega)) X Z wd_124 wd_125 wd_23 (Nat.le_of_ble_eq_true rfl) (Nat.le_of_ble_eq_true rfl) dX6_init_16 (fun q2 H Z => ?_)
  have Z : zW Δ A s.heap (((wX3 Δ aq1 0 0 0 (fun _ => 0) (fun _ => 0) (fun _ => 0) (fun _ => 0) (fun _ => 0) (fun _ => 0) (fun _ => 0) (fun _ => 0) (fun _ => 0) (upd (upd (fun _ => 0) (0 : Int32).toNatClampNeg 4) (1 : Int32).toNatClampNeg 10)) ++ [(h0, .inr (6, [.ref (aq1 0), .null, .null]))]) ++ [(q2, .inr (2, [.null, .int 0, .int 0]))]) _ _ := Z
  refine lv_dup X.x X.b dX6_init_19 rfl ?_
  refine c_callIN (host := "SerialRecaps") X Z hl (mX2_init l Δ q2) (by exact zNw_of 126 (by decide +kernel) (by decide +kernel)) wd_127 wd_23 wd_128 ok_X2_init rfl (wr := ((wX3 Δ aq1 0 0 0 (fun _ => 0) (fun _ => 0) (fun _ => 0) (fun _ => 0) (fun _ => 0) (fun _ => 0) (fun _ => 0) (fun _ => 0) (fun _ => 0) (upd (upd (fun _ => 0) (0 : Int32).toNatClampNeg 4) (1 : Int32).toNatClampNeg 10)) ++ [(h0, .inr (6, [.ref (aq1 0), .null, .null]))])) List.perm_append_comm rfl (rest := [.ref q2, .ref h0]) rfl (Nat.le_of_ble_eq_true rfl) ⟨Nat.le_of_ble_eq_true rfl, Nat.le_of_ble_eq_true rfl⟩ ⟨Nat.le_of_ble_eq_true rfl, Nat.le_of_ble_eq_true rfl⟩ dX6_init_20 (fun rv w1 H locs hP Z9 => ?_)
  obtain ⟨rfl, aq2, ha, rfl⟩ := hP
  subst ha
  refine W.eq (g2 := F0 m 23 ls [.ref (aq2 0), .ref h0]) rfl ?_
  have Z : zW Δ A s.heap ((wX2 Δ aq2 0 0 (fun _ => none)) ++ ((wX3 Δ aq1 0 0 0 (fun _ => 0) (fun _ => 0) (fun _ => 0) (fun _ => 0) (fun _ => 0) (fun _ => 0) (fun _ => 0) (fun _ => 0) (fun _ => 0) (upd (upd (fun _ => 0) (0 : Int32).toNatClampNeg 4) (1 : Int32).toNatClampNeg 10)) ++ [(h0, .inr (6, [.ref (aq1 0), .null, .null]))])) _ _ := Z9
  refine c_pfF (w' := ((wX2 Δ aq2 0 0 (fun _ => none)) ++ ((wX3 Δ aq1 0 0 0 (fun _ => 0) (fun _ => 0) (fun _ => 0) (fun _ => 0) (fun _ => 0) (fun _ => 0) (fun _ => 0) (fun _ => 0) (fun _ => 0) (upd (upd (fun _ => 0) (0 : Int32).toNatClampNeg 4) (1 : Int32).toNatClampNeg 10)) ++ [(h0, .inr (6, [.ref (aq1 0), .ref (aq2 0), .null]))]))) inG_X6 (ci := 6) rfl tyX6 tyX6_ok nmX6 1 (Nat.le_of_ble_eq_true rfl) rfl rfl X rfl rfl Z wd_184 15 rfl rfl rfl (Nat.le_of_ble_eq_true rfl) rfl dX6_init_23 (fun H locs Z => ?_)
  refine lv_aload_n X.x X.b dX6_init_26 rfl (lv_at hl 0 rfl) ?_
  refine c_new (fs := [.null, .int 0, .null]) inG_X5 (ci := 5) rfl tyX5 tyX5_ok (fun j hj => by match j, hj with | 0, _ => rfl | 1, _ => rfl | 2, _ => rfl | j + 3, hj => exact absurd hj (by omega)) X Z wd_143 wd_144 wd_24 (Nat.le_of_ble_eq_true rfl) (Nat.le_of_ble_eq_true rfl) dX6_init_27 (fun q3 H Z => ?_)
  have Z : zW Δ A s.heap (((wX2 Δ aq2 0 0 (fun _ => none)) ++ ((wX3 Δ aq1 0 0 0 (fun _ => 0) (fun _ => 0) (fun _ => 0) (fun _ => 0) (fun _ => 0) (fun _ => 0) (fun _ => 0) (fun _ => 0) (fun _ => 0) (upd (upd (fun _ => 0) (0 : Int32).toNatClampNeg 4) (1 : Int32).toNatClampNeg 10)) ++ [(h0, .inr (6, [.ref (aq1 0), .ref (aq2 0), .null]))])) ++ [(q3, .inr (5, [.null, .int 0, .null]))]) _ _ := Z
  refine lv_dup X.x X.b dX6_init_30 rfl ?_
  refine c_callIN (host := "SerialRecaps") X Z hl (mX5_init l Δ q3) (by exact zNw_of 145 (by decide +kernel) (by decide +kernel)) wd_146 wd_24 wd_147 ok_X5_init rfl (wr := ((wX2 Δ aq2 0 0 (fun _ => none)) ++ ((wX3 Δ aq1 0 0 0 (fun _ => 0) (fun _ => 0) (fun _ => 0) (fun _ => 0) (fun _ => 0) (fun _ => 0) (fun _ => 0) (fun _ => 0) (fun _ => 0) (upd (upd (fun _ => 0) (0 : Int32).toNatClampNeg 4) (1 : Int32).toNatClampNeg 10)) ++ [(h0, .inr (6, [.ref (aq1 0), .ref (aq2 0), .null]))]))) List.perm_append_comm rfl (rest := [.ref q3, .ref h0]) rfl (Nat.le_of_ble_eq_true rfl) ⟨Nat.le_of_ble_eq_true rfl, Nat.le_of_ble_eq_true rfl⟩ ⟨Nat.le_of_ble_eq_true rfl, Nat.le_of_ble_eq_true rfl⟩ dX6_init_31 (fun rv w1 H locs hP Z9 => ?_)
  obtain ⟨rfl, aq3, ha, rfl⟩ := hP
  subst ha
  refine W.eq (g2 := F0 m 34 ls [.ref (aq3 0), .ref h0]) rfl ?_
  have Z : zW Δ A s.heap ((wX5 Δ aq3 0 (fun _ => 0) 0 0 0 0) ++ ((wX2 Δ aq2 0 0 (fun _ => none)) ++ ((wX3 Δ aq1 0 0 0 (fun _ => 0) (fun _ => 0) (fun _ => 0) (fun _ => 0) (fun _ => 0) (fun _ => 0) (fun _ => 0) (fun _ => 0) (fun _ => 0) (upd (upd (fun _ => 0) (0 : Int32).toNatClampNeg 4) (1 : Int32).toNatClampNeg 10)) ++ [(h0, .inr (6, [.ref (aq1 0), .ref (aq2 0), .null]))]))) _ _ := Z9
  refine c_pfF (w' := ((wX5 Δ aq3 0 (fun _ => 0) 0 0 0 0) ++ ((wX2 Δ aq2 0 0 (fun _ => none)) ++ ((wX3 Δ aq1 0 0 0 (fun _ => 0) (fun _ => 0) (fun _ => 0) (fun _ => 0) (fun _ => 0) (fun _ => 0) (fun _ => 0) (fun _ => 0) (fun _ => 0) (upd (upd (fun _ => 0) (0 : Int32).toNatClampNeg 4) (1 : Int32).toNatClampNeg 10)) ++ [(h0, .inr (6, [.ref (aq1 0), .ref (aq2 0), .ref (aq3 0)]))])))) inG_X6 (ci := 6) rfl tyX6 tyX6_ok nmX6 2 (Nat.le_of_ble_eq_true rfl) rfl rfl X rfl rfl Z wd_185 18 rfl rfl rfl (Nat.le_of_ble_eq_true rfl) rfl dX6_init_34 (fun H locs Z => ?_)
  have Z : zW Δ A s.heap ((([(h0, .inr (6, [.ref (aq1 0), .ref (aq2 0), .ref (aq3 0)]))] ++ (wX3 Δ aq1 0 0 0 (fun _ => 0) (fun _ => 0) (fun _ => 0) (fun _ => 0) (fun _ => 0) (fun _ => 0) (fun _ => 0) (fun _ => 0) (fun _ => 0) (upd (upd (fun _ => 0) (0 : Int32).toNatClampNeg 4) (1 : Int32).toNatClampNeg 10))) ++ (wX2 Δ aq2 0 0 (fun _ => none))) ++ (wX5 Δ aq3 0 (fun _ => 0) 0 0 0 0)) _ _ := Z.perm (zPerm (fun x => by simp only [List.count_append]; omega))
  have Z : zW Δ A s.heap (wX6 Δ (zAd [h0, aq1 0, aq1 1, aq1 2, aq1 3, aq1 4, aq1 5, aq1 6, aq1 7, aq1 8, aq1 9, aq1 10, aq1 11, aq1 12, aq2 0, aq2 1, aq3 0, aq3 1, aq3 2]) 0 0 0 (fun _ => 0) (fun _ => 0) (fun _ => 0) (fun _ => 0) (fun _ => 0) (fun _ => 0) (fun _ => 0) (fun _ => 0) (fun _ => 0) (upd (upd (fun _ => 0) (0 : Int32).toNatClampNeg 4) (1 : Int32).toNatClampNeg 10) 0 0 (fun _ => none) 0 (fun _ => 0) 0 0 0 0) _ _ := Z
  exact c_vret X Z ⟨rfl, _, rfl, rfl⟩ (Nat.le_of_ble_eq_true rfl) (Nat.le_of_ble_eq_true rfl) dX6_init_37
