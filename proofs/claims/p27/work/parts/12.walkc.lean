set_option maxRecDepth 100000 in
set_option maxHeartbeats 4000000 in
theorem mX4_howManyGoOnWith (l : Launch) (Δ : zE) (ad : Nat → Nat) (size : Int32) (plots : Nat → Int32) (cliffs : Nat → Int32) (words : Nat → Int32) (needs : Nat → Int32) (x1 : Int32) {res : Int32} (hf : fX4_howManyGoOnWith size plots x1 = some res) : zMet l Δ yX4_howManyGoOnWith cX4_howManyGoOnWith 4 (some .int) 0 0 [.ref (ad 0), .int x1] (wX4 Δ ad size plots cliffs words needs) (wX4 Δ ad size plots cliffs words needs) (some (.int res)) := by
  refine z_start (by decide +kernel) (Nat.le_of_ble_eq_true rfl) ?_
  intro p e s m args below meth c A ls X Z hl
  have hl : lv_has ls 4 [(0, .ref (ad 0)), (1, .int x1)] := hl
  have L4 : ∀ (k : Nat) (size : Int32) (plots : Nat → Int32) (v1 : Int32) (v2 : Int32) (v3 : Int32), fX4_howManyGoOnWith_4 k size plots v1 v2 v3 = some res → ∀ (H : Heap) (locs : List Loc) (ls : Array Slot), zW Δ A s.heap (wX4 Δ ad size plots cliffs words needs) H locs → lv_has ls 4 [(0, .ref (ad 0)), (1, .int v1), (2, .int v2), (3, .int v3)] → W p l e { frames := 0, cells := 0, slots := 0, locals := 0 } s m args below meth c H locs 0 0 (zEnd Δ below args s 0 0 A (some (.int res)) (wX4 Δ ad size plots cliffs words needs)) (F0 m 4 ls []) := by
    intro k
    induction k with
    | zero =>
      intro size plots v1 v2 v3 hf
      rw [fX4_howManyGoOnWith_4.eq_1] at hf
      cases hf
    | succ k ih =>
      intro size plots v1 v2 v3 hf H locs ls Z hl
      rw [fX4_howManyGoOnWith_4.eq_2] at hf
      refine lv_iload_n X.x X.b dX4_howManyGoOnWith_4 rfl (lv_at hl 3 rfl) ?_
      refine lv_aload_n X.x X.b dX4_howManyGoOnWith_5 rfl (lv_at hl 0 rfl) ?_
      refine z_gf inG_X4 (ci := 4) rfl 0 (Nat.le_of_ble_eq_true rfl) rfl X Z wd_55 0 rfl (v := .int size) rfl dX4_howManyGoOnWith_6 ?_
      refine lv_icmp_ge (tgt := 31) X.x X.b dX4_howManyGoOnWith_9 (by decide) (fun b1 => ?_) (fun b1 => ?_)
      · have hf := zif_t b1 hf
        refine lv_iload_n X.x X.b dX4_howManyGoOnWith_31 rfl (lv_at hl 2 rfl) ?_
        cases hf
        exact z_iret X Z dX4_howManyGoOnWith_32
      · have hf := zif_f b1 hf
        refine lv_iload_n X.x X.b dX4_howManyGoOnWith_12 rfl (lv_at hl 2 rfl) ?_
        refine lv_aload_n X.x X.b dX4_howManyGoOnWith_13 rfl (lv_at hl 0 rfl) ?_
        refine z_gf inG_X4 (ci := 4) rfl 1 (Nat.le_of_ble_eq_true rfl) rfl X Z wd_58 0 rfl (v := .ref (ad 1)) rfl dX4_howManyGoOnWith_14 ?_
        refine lv_iload_n X.x X.b dX4_howManyGoOnWith_17 rfl (lv_at hl 3 rfl) ?_
        obtain ⟨b2, hf⟩ := zg_in hf
        refine z_iald X Z 1 rfl b2 dX4_howManyGoOnWith_18 ?_
        refine lv_iload_n X.x X.b dX4_howManyGoOnWith_19 rfl (lv_at hl 1 rfl) ?_
        refine lv_ishr X.x X.b dX4_howManyGoOnWith_20 ?_
        refine lv_iconst (v := 1) X.x X.b dX4_howManyGoOnWith_21 ki_1 ?_
        refine lv_iand X.x X.b dX4_howManyGoOnWith_22 ?_
        refine lv_iadd X.x X.b dX4_howManyGoOnWith_23 ?_
        refine lv_istore_n (lv' := [(2, .int (v2 + (((plots v3.toNatClampNeg) >>> (v1 &&& 31)) &&& 1))), (0, .ref (ad 0)), (1, .int v1), (3, .int v3)]) X.x X.b dX4_howManyGoOnWith_24 rfl hl (Nat.le_of_ble_eq_true rfl) rfl (fun ls hl => ?_)
        refine lv_iinc (v := (v3 + 1)) (lv' := [(3, .int (v3 + 1)), (2, .int (v2 + (((plots v3.toNatClampNeg) >>> (v1 &&& 31)) &&& 1))), (0, .ref (ad 0)), (1, .int v1)]) X.x X.b dX4_howManyGoOnWith_25 hl (k := 3) rfl (congrArg _ ki_1) (Nat.le_of_ble_eq_true rfl) rfl (fun ls hl => ?_)
        refine lv_goto (tgt := 4) X.x X.b dX4_howManyGoOnWith_28 (by decide) ?_
        exact ih size plots v1 (v2 + (((plots v3.toNatClampNeg) >>> (v1 &&& 31)) &&& 1)) (v3 + 1) hf _ _ _ Z (lv_sub hl [2, 3, 1, 0] rfl)
  rw [fX4_howManyGoOnWith.eq_1] at hf
  refine lv_iconst (v := 0) X.x X.b dX4_howManyGoOnWith_0 ki_0 ?_
  refine lv_istore_n (lv' := [(2, .int 0), (0, .ref (ad 0)), (1, .int x1)]) X.x X.b dX4_howManyGoOnWith_1 rfl hl (Nat.le_of_ble_eq_true rfl) rfl (fun ls hl => ?_)
  refine lv_iconst (v := 0) X.x X.b dX4_howManyGoOnWith_2 ki_0 ?_
  refine lv_istore_n (lv' := [(3, .int 0), (2, .int 0), (0, .ref (ad 0)), (1, .int x1)]) X.x X.b dX4_howManyGoOnWith_3 rfl hl (Nat.le_of_ble_eq_true rfl) rfl (fun ls hl => ?_)
  exact L4 zfuel size plots x1 0 0 hf _ _ _ Z (lv_sub hl [2, 3, 1, 0] rfl)
set_option maxRecDepth 100000 in
set_option maxHeartbeats 4000000 in
theorem mX4_latestWith (l : Launch) (Δ : zE) (ad : Nat → Nat) (size : Int32) (plots : Nat → Int32) (cliffs : Nat → Int32) (words : Nat → Int32) (needs : Nat → Int32) (x1 : Int32) {res : Int32} (hf : fX4_latestWith size plots x1 = some res) : zMet l Δ yX4_latestWith cX4_latestWith 3 (some .int) 1 21 [.ref (ad 0), .int x1] (wX4 Δ ad size plots cliffs words needs) (wX4 Δ ad size plots cliffs words needs) (some (.int res)) := by
  refine z_start (by decide +kernel) (Nat.le_of_ble_eq_true rfl) ?_
  intro p e s m args below meth c A ls X Z hl
  have hl : lv_has ls 3 [(0, .ref (ad 0)), (1, .int x1)] := hl
  have L7 : ∀ (k : Nat) (size : Int32) (plots : Nat → Int32) (v1 : Int32) (v2 : Int32), fX4_latestWith_7 k size plots v1 v2 = some res → ∀ (H : Heap) (locs : List Loc) (ls : Array Slot), zW Δ A s.heap (wX4 Δ ad size plots cliffs words needs) H locs → lv_has ls 3 [(0, .ref (ad 0)), (1, .int v1), (2, .int v2)] → W p l e { frames := 1, cells := 0, slots := 0, locals := 21 } s m args below meth c H locs 0 0 (zEnd Δ below args s 0 0 A (some (.int res)) (wX4 Δ ad size plots cliffs words needs)) (F0 m 7 ls []) := by
    intro k
    induction k with
    | zero =>
      intro size plots v1 v2 hf
      rw [fX4_latestWith_7.eq_1] at hf
      cases hf
    | succ k ih =>
      intro size plots v1 v2 hf H locs ls Z hl
      rw [fX4_latestWith_7.eq_2] at hf
      refine lv_iload_n X.x X.b dX4_latestWith_7 rfl (lv_at hl 2 rfl) ?_
      refine lv_if_lt (tgt := 32) X.x X.b dX4_latestWith_8 (by decide) (fun b1 => ?_) (fun b1 => ?_)
      · have hf := zif_t b1 hf
        refine lv_iconst (v := (-1)) X.x X.b dX4_latestWith_32 ki_m1 ?_
        cases hf
        exact z_iret X Z dX4_latestWith_33
      · have hf := zif_f b1 hf
        refine lv_aload_n X.x X.b dX4_latestWith_11 rfl (lv_at hl 0 rfl) ?_
        refine z_gf inG_X4 (ci := 4) rfl 1 (Nat.le_of_ble_eq_true rfl) rfl X Z wd_58 0 rfl (v := .ref (ad 1)) rfl dX4_latestWith_12 ?_
        refine lv_iload_n X.x X.b dX4_latestWith_15 rfl (lv_at hl 2 rfl) ?_
        obtain ⟨b2, hf⟩ := zg_in hf
        refine z_iald X Z 1 rfl b2 dX4_latestWith_16 ?_
        refine lv_iload_n X.x X.b dX4_latestWith_17 rfl (lv_at hl 1 rfl) ?_
        obtain ⟨q1, hq1, hf⟩ := zb_ok hf
        refine z_callSN (host := "SerialRecaps") X Z hl (mX6_isIn l Δ  (plots v2.toNatClampNeg) v1 hq1) (by decide +kernel) wd_367 wd_19 wd_368 ok_X6_isIn (w' := (wX4 Δ ad size plots cliffs words needs)) zSub_nil rfl zput_nil rfl (rest := []) rfl (Nat.le_of_ble_eq_true rfl) ⟨Nat.le_of_ble_eq_true rfl, Nat.le_of_ble_eq_true rfl⟩ ⟨Nat.zero_le _, Nat.zero_le _⟩ (st1 := [.int q1]) rfl dX4_latestWith_18 (fun H locs Z => ?_)
        refine lv_if_eq (tgt := 26) X.x X.b dX4_latestWith_21 (by decide) (fun b3 => ?_) (fun b3 => ?_)
        · have hf := zif_t b3 hf
          refine lv_iinc (v := (v2 + (-1))) (lv' := [(2, .int (v2 + (-1))), (0, .ref (ad 0)), (1, .int v1)]) X.x X.b dX4_latestWith_26 hl (k := 2) rfl (congrArg _ ki_m1) (Nat.le_of_ble_eq_true rfl) rfl (fun ls hl => ?_)
          refine lv_goto (tgt := 7) X.x X.b dX4_latestWith_29 (by decide) ?_
          exact ih size plots v1 (v2 + (-1)) hf _ _ _ Z (lv_sub hl [1, 2, 0] rfl)
        · have hf := zif_f b3 hf
          refine lv_iload_n X.x X.b dX4_latestWith_24 rfl (lv_at hl 2 rfl) ?_
          cases hf
          exact z_iret X Z dX4_latestWith_25
  rw [fX4_latestWith.eq_1] at hf
  refine lv_aload_n X.x X.b dX4_latestWith_0 rfl (lv_at hl 0 rfl) ?_
  refine z_gf inG_X4 (ci := 4) rfl 0 (Nat.le_of_ble_eq_true rfl) rfl X Z wd_55 0 rfl (v := .int size) rfl dX4_latestWith_1 ?_
  refine lv_iconst (v := 1) X.x X.b dX4_latestWith_4 ki_1 ?_
  refine lv_isub X.x X.b dX4_latestWith_5 ?_
  refine lv_istore_n (lv' := [(2, .int (size - 1)), (0, .ref (ad 0)), (1, .int x1)]) X.x X.b dX4_latestWith_6 rfl hl (Nat.le_of_ble_eq_true rfl) rfl (fun ls hl => ?_)
  exact L7 zfuel size plots x1 (size - 1) hf _ _ _ Z (lv_sub hl [1, 2, 0] rfl)
set_option maxRecDepth 100000 in
set_option maxHeartbeats 4000000 in
theorem mX4_howManyCliffs (l : Launch) (Δ : zE) (ad : Nat → Nat) (size : Int32) (plots : Nat → Int32) (cliffs : Nat → Int32) (words : Nat → Int32) (needs : Nat → Int32) (x1 : Int32) {res : Int32} (hf : fX4_howManyCliffs size cliffs x1 = some res) : zMet l Δ yX4_howManyCliffs cX4_howManyCliffs 4 (some .int) 0 0 [.ref (ad 0), .int x1] (wX4 Δ ad size plots cliffs words needs) (wX4 Δ ad size plots cliffs words needs) (some (.int res)) := by
  refine z_start (by decide +kernel) (Nat.le_of_ble_eq_true rfl) ?_
  intro p e s m args below meth c A ls X Z hl
  have hl : lv_has ls 4 [(0, .ref (ad 0)), (1, .int x1)] := hl
  have L4 : ∀ (k : Nat) (size : Int32) (cliffs : Nat → Int32) (v1 : Int32) (v2 : Int32) (v3 : Int32), fX4_howManyCliffs_4 k size cliffs v1 v2 v3 = some res → ∀ (H : Heap) (locs : List Loc) (ls : Array Slot), zW Δ A s.heap (wX4 Δ ad size plots cliffs words needs) H locs → lv_has ls 4 [(0, .ref (ad 0)), (1, .int v1), (2, .int v2), (3, .int v3)] → W p l e { frames := 0, cells := 0, slots := 0, locals := 0 } s m args below meth c H locs 0 0 (zEnd Δ below args s 0 0 A (some (.int res)) (wX4 Δ ad size plots cliffs words needs)) (F0 m 4 ls []) := by
    intro k
    induction k with
    | zero =>
      intro size cliffs v1 v2 v3 hf
      rw [fX4_howManyCliffs_4.eq_1] at hf
      cases hf
    | succ k ih =>
      intro size cliffs v1 v2 v3 hf H locs ls Z hl
      rw [fX4_howManyCliffs_4.eq_2] at hf
      refine lv_iload_n X.x X.b dX4_howManyCliffs_4 rfl (lv_at hl 3 rfl) ?_
      refine lv_aload_n X.x X.b dX4_howManyCliffs_5 rfl (lv_at hl 0 rfl) ?_
      refine z_gf inG_X4 (ci := 4) rfl 0 (Nat.le_of_ble_eq_true rfl) rfl X Z wd_55 0 rfl (v := .int size) rfl dX4_howManyCliffs_6 ?_
      refine lv_icmp_ge (tgt := 31) X.x X.b dX4_howManyCliffs_9 (by decide) (fun b1 => ?_) (fun b1 => ?_)
      · have hf := zif_t b1 hf
        refine lv_iload_n X.x X.b dX4_howManyCliffs_31 rfl (lv_at hl 2 rfl) ?_
        cases hf
        exact z_iret X Z dX4_howManyCliffs_32
      · have hf := zif_f b1 hf
        refine lv_aload_n X.x X.b dX4_howManyCliffs_12 rfl (lv_at hl 0 rfl) ?_
        refine z_gf inG_X4 (ci := 4) rfl 2 (Nat.le_of_ble_eq_true rfl) rfl X Z wd_60 0 rfl (v := .ref (ad 2)) rfl dX4_howManyCliffs_13 ?_
        refine lv_iload_n X.x X.b dX4_howManyCliffs_16 rfl (lv_at hl 3 rfl) ?_
        obtain ⟨b2, hf⟩ := zg_in hf
        refine z_iald X Z 2 rfl b2 dX4_howManyCliffs_17 ?_
        refine lv_iload_n X.x X.b dX4_howManyCliffs_18 rfl (lv_at hl 1 rfl) ?_
        refine lv_icmp_ne (tgt := 25) X.x X.b dX4_howManyCliffs_19 (by decide) (fun b3 => ?_) (fun b3 => ?_)
        · have hf := zif_f b3 hf
          refine lv_iinc (v := (v3 + 1)) (lv' := [(3, .int (v3 + 1)), (0, .ref (ad 0)), (1, .int v1), (2, .int v2)]) X.x X.b dX4_howManyCliffs_25 hl (k := 3) rfl (congrArg _ ki_1) (Nat.le_of_ble_eq_true rfl) rfl (fun ls hl => ?_)
          refine lv_goto (tgt := 4) X.x X.b dX4_howManyCliffs_28 (by decide) ?_
          exact ih size cliffs v1 v2 (v3 + 1) hf _ _ _ Z (lv_sub hl [1, 2, 3, 0] rfl)
        · have hf := zif_t b3 hf
          refine lv_iinc (v := (v2 + 1)) (lv' := [(2, .int (v2 + 1)), (0, .ref (ad 0)), (1, .int v1), (3, .int v3)]) X.x X.b dX4_howManyCliffs_22 hl (k := 2) rfl (congrArg _ ki_1) (Nat.le_of_ble_eq_true rfl) rfl (fun ls hl => ?_)
          refine lv_iinc (v := (v3 + 1)) (lv' := [(3, .int (v3 + 1)), (2, .int (v2 + 1)), (0, .ref (ad 0)), (1, .int v1)]) X.x X.b dX4_howManyCliffs_25 hl (k := 3) rfl (congrArg _ ki_1) (Nat.le_of_ble_eq_true rfl) rfl (fun ls hl => ?_)
          refine lv_goto (tgt := 4) X.x X.b dX4_howManyCliffs_28 (by decide) ?_
          exact ih size cliffs v1 (v2 + 1) (v3 + 1) hf _ _ _ Z (lv_sub hl [2, 3, 1, 0] rfl)
  rw [fX4_howManyCliffs.eq_1] at hf
  refine lv_iconst (v := 0) X.x X.b dX4_howManyCliffs_0 ki_0 ?_
  refine lv_istore_n (lv' := [(2, .int 0), (0, .ref (ad 0)), (1, .int x1)]) X.x X.b dX4_howManyCliffs_1 rfl hl (Nat.le_of_ble_eq_true rfl) rfl (fun ls hl => ?_)
  refine lv_iconst (v := 0) X.x X.b dX4_howManyCliffs_2 ki_0 ?_
  refine lv_istore_n (lv' := [(3, .int 0), (2, .int 0), (0, .ref (ad 0)), (1, .int x1)]) X.x X.b dX4_howManyCliffs_3 rfl hl (Nat.le_of_ble_eq_true rfl) rfl (fun ls hl => ?_)
  exact L4 zfuel size cliffs x1 0 0 hf _ _ _ Z (lv_sub hl [2, 3, 1, 0] rfl)
set_option maxRecDepth 100000 in
set_option maxHeartbeats 4000000 in
theorem mX3_howManyHang (l : Launch) (Δ : zE) (ad : Nat → Nat) (reached : Int32) (lost : Int32) (size : Int32) (plots : Nat → Int32) (cliffs : Nat → Int32) (words : Nat → Int32) (needs : Nat → Int32) (told : Nat → Int32) (rea : Nat → Int32) (wread : Nat → Int32) (ltold : Nat → Int32) (lout : Nat → Int32) (sets : Nat → Int32) (x1 : Int32) {res : Int32} (hf : fX3_howManyHang size plots cliffs told rea x1 = some res) : zMet l Δ yX3_howManyHang cX3_howManyHang 4 (some .int) 2 45 [.ref (ad 0), .int x1] (wX3 Δ ad reached lost size plots cliffs words needs told rea wread ltold lout sets) (wX3 Δ ad reached lost size plots cliffs words needs told rea wread ltold lout sets) (some (.int res)) := by
  refine z_start (by decide +kernel) (Nat.le_of_ble_eq_true rfl) ?_
  intro p e s m args below meth c A ls X Z hl
  have hl : lv_has ls 4 [(0, .ref (ad 0)), (1, .int x1)] := hl
  have L4 : ∀ (k : Nat) (size : Int32) (plots : Nat → Int32) (cliffs : Nat → Int32) (told : Nat → Int32) (rea : Nat → Int32) (v1 : Int32) (v2 : Int32) (v3 : Int32), fX3_howManyHang_4 k size plots cliffs told rea v1 v2 v3 = some res → ∀ (H : Heap) (locs : List Loc) (ls : Array Slot), zW Δ A s.heap (wX3 Δ ad reached lost size plots cliffs words needs told rea wread ltold lout sets) H locs → lv_has ls 4 [(0, .ref (ad 0)), (1, .int v1), (2, .int v2), (3, .int v3)] → W p l e { frames := 2, cells := 0, slots := 0, locals := 45 } s m args below meth c H locs 0 0 (zEnd Δ below args s 0 0 A (some (.int res)) (wX3 Δ ad reached lost size plots cliffs words needs told rea wread ltold lout sets)) (F0 m 4 ls []) := by
    intro k
    induction k with
    | zero =>
      intro size plots cliffs told rea v1 v2 v3 hf
      rw [fX3_howManyHang_4.eq_1] at hf
      cases hf
    | succ k ih =>
      intro size plots cliffs told rea v1 v2 v3 hf H locs ls Z hl
      rw [fX3_howManyHang_4.eq_2] at hf
      refine lv_iload_n X.x X.b dX3_howManyHang_4 rfl (lv_at hl 3 rfl) ?_
      refine lv_bipush (v := 6) X.x X.b dX3_howManyHang_5 kb_6 ?_
      refine lv_icmp_ge (tgt := 38) X.x X.b dX3_howManyHang_7 (by decide) (fun b1 => ?_) (fun b1 => ?_)
      · have hf := zif_t b1 hf
        refine lv_iload_n X.x X.b dX3_howManyHang_38 rfl (lv_at hl 2 rfl) ?_
        cases hf
        exact z_iret X Z dX3_howManyHang_39
      · have hf := zif_f b1 hf
        refine lv_iload_n X.x X.b dX3_howManyHang_10 rfl (lv_at hl 2 rfl) ?_
        refine lv_aload_n X.x X.b dX3_howManyHang_11 rfl (lv_at hl 0 rfl) ?_
        refine z_gf inG_X3 (ci := 3) rfl 0 (Nat.le_of_ble_eq_true rfl) rfl X Z wd_105 0 rfl (v := .ref (ad 1)) rfl dX3_howManyHang_12 ?_
        refine lv_aload_n X.x X.b dX3_howManyHang_15 rfl (lv_at hl 0 rfl) ?_
        refine z_gf inG_X3 (ci := 3) rfl 1 (Nat.le_of_ble_eq_true rfl) rfl X Z wd_107 0 rfl (v := .ref (ad 6)) rfl dX3_howManyHang_16 ?_
        refine lv_iload_n X.x X.b dX3_howManyHang_19 rfl (lv_at hl 3 rfl) ?_
        obtain ⟨q1, hq1, hf⟩ := zb_ok hf
        refine z_callV X Z hl (mX0_known l Δ (fun j => ad (j + 6)) told rea wread ltold lout v3 hq1) wd_465 wd_338 wd_339 wd_22 wd_340 ok_X0_known 0 rfl 6 rfl (w' := (wX3 Δ ad reached lost size plots cliffs words needs told rea wread ltold lout sets)) su_4 fs_4 pu_4 rfl (rest := [.ref (ad 1), .int v2]) rfl (Nat.le_of_ble_eq_true rfl) ⟨Nat.le_of_ble_eq_true rfl, Nat.le_of_ble_eq_true rfl⟩ ⟨Nat.zero_le _, Nat.zero_le _⟩ (st1 := [.int q1, .ref (ad 1), .int v2]) rfl dX3_howManyHang_20 (fun H locs Z => ?_)
        obtain ⟨q2, hq2, hf⟩ := zb_ok hf
        refine z_callV X Z hl (mX4_openCliffs l Δ (fun j => ad (j + 1)) size plots cliffs words needs q1 hq2) wd_613 wd_614 wd_615 wd_21 wd_616 ok_X4_openCliffs 4 rfl 1 rfl (w' := (wX3 Δ ad reached lost size plots cliffs words needs told rea wread ltold lout sets)) su_5 fs_5 pu_5 rfl (rest := [.int v2]) rfl (Nat.le_of_ble_eq_true rfl) ⟨Nat.le_of_ble_eq_true rfl, Nat.le_of_ble_eq_true rfl⟩ ⟨Nat.zero_le _, Nat.zero_le _⟩ (st1 := [.int q2, .int v2]) rfl dX3_howManyHang_23 (fun H locs Z => ?_)
        refine lv_iload_n X.x X.b dX3_howManyHang_26 rfl (lv_at hl 1 rfl) ?_
        refine lv_ishr X.x X.b dX3_howManyHang_27 ?_
        refine lv_iconst (v := 1) X.x X.b dX3_howManyHang_28 ki_1 ?_
        refine lv_iand X.x X.b dX3_howManyHang_29 ?_
        refine lv_iadd X.x X.b dX3_howManyHang_30 ?_
        refine lv_istore_n (lv' := [(2, .int (v2 + ((q2 >>> (v1 &&& 31)) &&& 1))), (0, .ref (ad 0)), (1, .int v1), (3, .int v3)]) X.x X.b dX3_howManyHang_31 rfl hl (Nat.le_of_ble_eq_true rfl) rfl (fun ls hl => ?_)
        refine lv_iinc (v := (v3 + 1)) (lv' := [(3, .int (v3 + 1)), (2, .int (v2 + ((q2 >>> (v1 &&& 31)) &&& 1))), (0, .ref (ad 0)), (1, .int v1)]) X.x X.b dX3_howManyHang_32 hl (k := 3) rfl (congrArg _ ki_1) (Nat.le_of_ble_eq_true rfl) rfl (fun ls hl => ?_)
        refine lv_goto (tgt := 4) X.x X.b dX3_howManyHang_35 (by decide) ?_
        exact ih size plots cliffs told rea v1 (v2 + ((q2 >>> (v1 &&& 31)) &&& 1)) (v3 + 1) hf _ _ _ Z (lv_sub hl [2, 3, 1, 0] rfl)
  rw [fX3_howManyHang.eq_1] at hf
  refine lv_iconst (v := 0) X.x X.b dX3_howManyHang_0 ki_0 ?_
  refine lv_istore_n (lv' := [(2, .int 0), (0, .ref (ad 0)), (1, .int x1)]) X.x X.b dX3_howManyHang_1 rfl hl (Nat.le_of_ble_eq_true rfl) rfl (fun ls hl => ?_)
  refine lv_iconst (v := 0) X.x X.b dX3_howManyHang_2 ki_0 ?_
  refine lv_istore_n (lv' := [(3, .int 0), (2, .int 0), (0, .ref (ad 0)), (1, .int x1)]) X.x X.b dX3_howManyHang_3 rfl hl (Nat.le_of_ble_eq_true rfl) rfl (fun ls hl => ?_)
  exact L4 zfuel size plots cliffs told rea x1 0 0 hf _ _ _ Z (lv_sub hl [2, 3, 1, 0] rfl)
set_option maxRecDepth 100000 in
set_option maxHeartbeats 4000000 in
theorem mX3_ofPlot (l : Launch) (Δ : zE) (ad : Nat → Nat) (reached : Int32) (lost : Int32) (size : Int32) (plots : Nat → Int32) (cliffs : Nat → Int32) (words : Nat → Int32) (needs : Nat → Int32) (told : Nat → Int32) (rea : Nat → Int32) (wread : Nat → Int32) (ltold : Nat → Int32) (lout : Nat → Int32) (sets : Nat → Int32) (x1 : Int32) (x2 : Int32) {res : Int32} (hf : fX3_ofPlot size plots cliffs told rea x1 x2 = some res) : zMet l Δ yX3_ofPlot cX3_ofPlot 3 (some .int) 3 68 [.ref (ad 0), .int x1, .int x2] (wX3 Δ ad reached lost size plots cliffs words needs told rea wread ltold lout sets) (wX3 Δ ad reached lost size plots cliffs words needs told rea wread ltold lout sets) (some (.int res)) := by
  refine z_start (by decide +kernel) (Nat.le_of_ble_eq_true rfl) ?_
  intro p e s m args below meth c A ls X Z hl
  have hl : lv_has ls 3 [(0, .ref (ad 0)), (1, .int x1), (2, .int x2)] := hl
  rw [fX3_ofPlot.eq_1] at hf
  refine lv_iload_n X.x X.b dX3_ofPlot_0 rfl (lv_at hl 2 rfl) ?_
  by_cases b1 : x2 = 0
  · have hf := zif_t b1 hf
    refine lv_tableIn (tgt := 28) X.x X.b dX3_ofPlot_1 (zt_lo b1 (by decide)) (zt_hi b1 (by decide)) (zt_at (off := 27) b1 rfl) (by decide) ?_
    refine lv_aload_n X.x X.b dX3_ofPlot_28 rfl (lv_at hl 0 rfl) ?_
    refine z_gf inG_X3 (ci := 3) rfl 0 (Nat.le_of_ble_eq_true rfl) rfl X Z wd_105 0 rfl (v := .ref (ad 1)) rfl dX3_ofPlot_29 ?_
    refine lv_iload_n X.x X.b dX3_ofPlot_32 rfl (lv_at hl 1 rfl) ?_
    obtain ⟨q1, hq1, hf⟩ := zb_ok hf
    refine z_callV X Z hl (mX4_howManyGoOnWith l Δ (fun j => ad (j + 1)) size plots cliffs words needs x1 hq1) wd_626 wd_627 wd_628 wd_21 wd_629 ok_X4_howManyGoOnWith 4 rfl 1 rfl (w' := (wX3 Δ ad reached lost size plots cliffs words needs told rea wread ltold lout sets)) su_5 fs_5 pu_5 rfl (rest := []) rfl (Nat.le_of_ble_eq_true rfl) ⟨Nat.le_of_ble_eq_true rfl, Nat.le_of_ble_eq_true rfl⟩ ⟨Nat.zero_le _, Nat.zero_le _⟩ (st1 := [.int q1]) rfl dX3_ofPlot_33 (fun H locs Z => ?_)
    cases hf
    exact z_iret X Z dX3_ofPlot_36
  · have hf := zif_f b1 hf
    by_cases b2 : x2 = 1
    · have hf := zif_t b2 hf
      refine lv_tableIn (tgt := 37) X.x X.b dX3_ofPlot_1 (zt_lo b2 (by decide)) (zt_hi b2 (by decide)) (zt_at (off := 36) b2 rfl) (by decide) ?_
      refine lv_aload_n X.x X.b dX3_ofPlot_37 rfl (lv_at hl 0 rfl) ?_
      refine z_gf inG_X3 (ci := 3) rfl 0 (Nat.le_of_ble_eq_true rfl) rfl X Z wd_105 0 rfl (v := .ref (ad 1)) rfl dX3_ofPlot_38 ?_
      refine lv_iload_n X.x X.b dX3_ofPlot_41 rfl (lv_at hl 1 rfl) ?_
      obtain ⟨q2, hq2, hf⟩ := zb_ok hf
      refine z_callV X Z hl (mX4_latestWith l Δ (fun j => ad (j + 1)) size plots cliffs words needs x1 hq2) wd_630 wd_631 wd_632 wd_21 wd_633 ok_X4_latestWith 4 rfl 1 rfl (w' := (wX3 Δ ad reached lost size plots cliffs words needs told rea wread ltold lout sets)) su_5 fs_5 pu_5 rfl (rest := []) rfl (Nat.le_of_ble_eq_true rfl) ⟨Nat.le_of_ble_eq_true rfl, Nat.le_of_ble_eq_true rfl⟩ ⟨Nat.zero_le _, Nat.zero_le _⟩ (st1 := [.int q2]) rfl dX3_ofPlot_42 (fun H locs Z => ?_)
      cases hf
      exact z_iret X Z dX3_ofPlot_45
    · have hf := zif_f b2 hf
      by_cases b3 : x2 = 2
      · have hf := zif_t b3 hf
        refine lv_tableIn (tgt := 46) X.x X.b dX3_ofPlot_1 (zt_lo b3 (by decide)) (zt_hi b3 (by decide)) (zt_at (off := 45) b3 rfl) (by decide) ?_
        refine lv_aload_n X.x X.b dX3_ofPlot_46 rfl (lv_at hl 0 rfl) ?_
        refine z_gf inG_X3 (ci := 3) rfl 0 (Nat.le_of_ble_eq_true rfl) rfl X Z wd_105 0 rfl (v := .ref (ad 1)) rfl dX3_ofPlot_47 ?_
        refine lv_iload_n X.x X.b dX3_ofPlot_50 rfl (lv_at hl 1 rfl) ?_
        obtain ⟨q3, hq3, hf⟩ := zb_ok hf
        refine z_callV X Z hl (mX4_howManyCliffs l Δ (fun j => ad (j + 1)) size plots cliffs words needs x1 hq3) wd_634 wd_635 wd_636 wd_21 wd_637 ok_X4_howManyCliffs 4 rfl 1 rfl (w' := (wX3 Δ ad reached lost size plots cliffs words needs told rea wread ltold lout sets)) su_5 fs_5 pu_5 rfl (rest := []) rfl (Nat.le_of_ble_eq_true rfl) ⟨Nat.le_of_ble_eq_true rfl, Nat.le_of_ble_eq_true rfl⟩ ⟨Nat.zero_le _, Nat.zero_le _⟩ (st1 := [.int q3]) rfl dX3_ofPlot_51 (fun H locs Z => ?_)
        cases hf
        exact z_iret X Z dX3_ofPlot_54
      · have hf := zif_f b3 hf
        refine lv_tableOut (tgt := 55) X.x X.b dX3_ofPlot_1 (by have := (x2 : Int32).toInt; have := zt_ne (n := 0) b1 (by decide); have := zt_ne (n := 1) b2 (by decide); have := zt_ne (n := 2) b3 (by decide); omega) (by decide) ?_
        refine lv_aload_n X.x X.b dX3_ofPlot_55 rfl (lv_at hl 0 rfl) ?_
        refine lv_iload_n X.x X.b dX3_ofPlot_56 rfl (lv_at hl 1 rfl) ?_
        obtain ⟨q4, hq4, hf⟩ := zb_ok hf
        refine z_callV X Z hl (mX3_howManyHang l Δ ad reached lost size plots cliffs words needs told rea wread ltold lout sets x1 hq4) wd_638 wd_640 wd_13 wd_20 wd_641 ok_X3_howManyHang 3 rfl 0 rfl (w' := (wX3 Δ ad reached lost size plots cliffs words needs told rea wread ltold lout sets)) su_6 fs_6 pu_6 rfl (rest := []) rfl (Nat.le_of_ble_eq_true rfl) ⟨Nat.le_of_ble_eq_true rfl, Nat.le_of_ble_eq_true rfl⟩ ⟨Nat.zero_le _, Nat.zero_le _⟩ (st1 := [.int q4]) rfl dX3_ofPlot_57 (fun H locs Z => ?_)
        cases hf
        exact z_iret X Z dX3_ofPlot_60
set_option maxRecDepth 100000 in
set_option maxHeartbeats 4000000 in
theorem mX4_sumOfWords (l : Launch) (Δ : zE) (ad : Nat → Nat) (size : Int32) (plots : Nat → Int32) (cliffs : Nat → Int32) (words : Nat → Int32) (needs : Nat → Int32)  {res : Int32} (hf : fX4_sumOfWords size words = some res) : zMet l Δ yX4_sumOfWords cX4_sumOfWords 3 (some .int) 0 0 [.ref (ad 0)] (wX4 Δ ad size plots cliffs words needs) (wX4 Δ ad size plots cliffs words needs) (some (.int res)) := by
  refine z_start (by decide +kernel) (Nat.le_of_ble_eq_true rfl) ?_
  intro p e s m args below meth c A ls X Z hl
  have hl : lv_has ls 3 [(0, .ref (ad 0))] := hl
  have L4 : ∀ (k : Nat) (size : Int32) (words : Nat → Int32) (v1 : Int32) (v2 : Int32), fX4_sumOfWords_4 k size words v1 v2 = some res → ∀ (H : Heap) (locs : List Loc) (ls : Array Slot), zW Δ A s.heap (wX4 Δ ad size plots cliffs words needs) H locs → lv_has ls 3 [(0, .ref (ad 0)), (1, .int v1), (2, .int v2)] → W p l e { frames := 0, cells := 0, slots := 0, locals := 0 } s m args below meth c H locs 0 0 (zEnd Δ below args s 0 0 A (some (.int res)) (wX4 Δ ad size plots cliffs words needs)) (F0 m 4 ls []) := by
    intro k
    induction k with
    | zero =>
      intro size words v1 v2 hf
      rw [fX4_sumOfWords_4.eq_1] at hf
      cases hf
    | succ k ih =>
      intro size words v1 v2 hf H locs ls Z hl
      rw [fX4_sumOfWords_4.eq_2] at hf
      refine lv_iload_n X.x X.b dX4_sumOfWords_4 rfl (lv_at hl 2 rfl) ?_
      refine lv_aload_n X.x X.b dX4_sumOfWords_5 rfl (lv_at hl 0 rfl) ?_
      refine z_gf inG_X4 (ci := 4) rfl 0 (Nat.le_of_ble_eq_true rfl) rfl X Z wd_55 0 rfl (v := .int size) rfl dX4_sumOfWords_6 ?_
      refine lv_icmp_ge (tgt := 27) X.x X.b dX4_sumOfWords_9 (by decide) (fun b1 => ?_) (fun b1 => ?_)
      · have hf := zif_t b1 hf
        refine lv_iload_n X.x X.b dX4_sumOfWords_27 rfl (lv_at hl 1 rfl) ?_
        cases hf
        exact z_iret X Z dX4_sumOfWords_28
      · have hf := zif_f b1 hf
        refine lv_iload_n X.x X.b dX4_sumOfWords_12 rfl (lv_at hl 1 rfl) ?_
        refine lv_aload_n X.x X.b dX4_sumOfWords_13 rfl (lv_at hl 0 rfl) ?_
        refine z_gf inG_X4 (ci := 4) rfl 3 (Nat.le_of_ble_eq_true rfl) rfl X Z wd_62 0 rfl (v := .ref (ad 3)) rfl dX4_sumOfWords_14 ?_
        refine lv_iload_n X.x X.b dX4_sumOfWords_17 rfl (lv_at hl 2 rfl) ?_
        obtain ⟨b2, hf⟩ := zg_in hf
        refine z_iald X Z 3 rfl b2 dX4_sumOfWords_18 ?_
        refine lv_iadd X.x X.b dX4_sumOfWords_19 ?_
        refine lv_istore_n (lv' := [(1, .int (v1 + (words v2.toNatClampNeg))), (0, .ref (ad 0)), (2, .int v2)]) X.x X.b dX4_sumOfWords_20 rfl hl (Nat.le_of_ble_eq_true rfl) rfl (fun ls hl => ?_)
        refine lv_iinc (v := (v2 + 1)) (lv' := [(2, .int (v2 + 1)), (1, .int (v1 + (words v2.toNatClampNeg))), (0, .ref (ad 0))]) X.x X.b dX4_sumOfWords_21 hl (k := 2) rfl (congrArg _ ki_1) (Nat.le_of_ble_eq_true rfl) rfl (fun ls hl => ?_)
        refine lv_goto (tgt := 4) X.x X.b dX4_sumOfWords_24 (by decide) ?_
        exact ih size words (v1 + (words v2.toNatClampNeg)) (v2 + 1) hf _ _ _ Z (lv_sub hl [2, 1, 0] rfl)
  rw [fX4_sumOfWords.eq_1] at hf
  refine lv_iconst (v := 0) X.x X.b dX4_sumOfWords_0 ki_0 ?_
  refine lv_istore_n (lv' := [(1, .int 0), (0, .ref (ad 0))]) X.x X.b dX4_sumOfWords_1 rfl hl (Nat.le_of_ble_eq_true rfl) rfl (fun ls hl => ?_)
  refine lv_iconst (v := 0) X.x X.b dX4_sumOfWords_2 ki_0 ?_
  refine lv_istore_n (lv' := [(2, .int 0), (1, .int 0), (0, .ref (ad 0))]) X.x X.b dX4_sumOfWords_3 rfl hl (Nat.le_of_ble_eq_true rfl) rfl (fun ls hl => ?_)
  exact L4 zfuel size words 0 0 hf _ _ _ Z (lv_sub hl [2, 1, 0] rfl)
set_option maxRecDepth 100000 in
set_option maxHeartbeats 4000000 in
theorem mX3_ofAll (l : Launch) (Δ : zE) (ad : Nat → Nat) (reached : Int32) (lost : Int32) (size : Int32) (plots : Nat → Int32) (cliffs : Nat → Int32) (words : Nat → Int32) (needs : Nat → Int32) (told : Nat → Int32) (rea : Nat → Int32) (wread : Nat → Int32) (ltold : Nat → Int32) (lout : Nat → Int32) (sets : Nat → Int32) (x1 : Int32) {res : Int32} (hf : fX3_ofAll reached lost size words told rea wread x1 = some res) : zMet l Δ yX3_ofAll cX3_ofAll 2 (some .int) 2 44 [.ref (ad 0), .int x1] (wX3 Δ ad reached lost size plots cliffs words needs told rea wread ltold lout sets) (wX3 Δ ad reached lost size plots cliffs words needs told rea wread ltold lout sets) (some (.int res)) := by
  refine z_start (by decide +kernel) (Nat.le_of_ble_eq_true rfl) ?_
  intro p e s m args below meth c A ls X Z hl
  have hl : lv_has ls 2 [(0, .ref (ad 0)), (1, .int x1)] := hl
  rw [fX3_ofAll.eq_1] at hf
  refine lv_iload_n X.x X.b dX3_ofAll_0 rfl (lv_at hl 1 rfl) ?_
  by_cases b1 : x1 = 0
  · have hf := zif_t b1 hf
    refine lv_tableIn (tgt := 36) X.x X.b dX3_ofAll_1 (zt_lo b1 (by decide)) (zt_hi b1 (by decide)) (zt_at (off := 35) b1 rfl) (by decide) ?_
    refine lv_aload_n X.x X.b dX3_ofAll_36 rfl (lv_at hl 0 rfl) ?_
    refine z_gf inG_X3 (ci := 3) rfl 0 (Nat.le_of_ble_eq_true rfl) rfl X Z wd_105 0 rfl (v := .ref (ad 1)) rfl dX3_ofAll_37 ?_
    refine z_gf inG_X4 (ci := 4) rfl 0 (Nat.le_of_ble_eq_true rfl) rfl X Z wd_57 1 rfl (v := .int size) rfl dX3_ofAll_40 ?_
    cases hf
    exact z_iret X Z dX3_ofAll_43
  · have hf := zif_f b1 hf
    by_cases b2 : x1 = 1
    · have hf := zif_t b2 hf
      refine lv_tableIn (tgt := 44) X.x X.b dX3_ofAll_1 (zt_lo b2 (by decide)) (zt_hi b2 (by decide)) (zt_at (off := 43) b2 rfl) (by decide) ?_
      refine lv_aload_n X.x X.b dX3_ofAll_44 rfl (lv_at hl 0 rfl) ?_
      refine z_gf inG_X3 (ci := 3) rfl 0 (Nat.le_of_ble_eq_true rfl) rfl X Z wd_105 0 rfl (v := .ref (ad 1)) rfl dX3_ofAll_45 ?_
      obtain ⟨q1, hq1, hf⟩ := zb_ok hf
      refine z_callV X Z hl (mX4_sumOfWords l Δ (fun j => ad (j + 1)) size plots cliffs words needs hq1) wd_321 wd_322 wd_323 wd_21 wd_324 ok_X4_sumOfWords 4 rfl 1 rfl (w' := (wX3 Δ ad reached lost size plots cliffs words needs told rea wread ltold lout sets)) su_5 fs_5 pu_5 rfl (rest := []) rfl (Nat.le_of_ble_eq_true rfl) ⟨Nat.le_of_ble_eq_true rfl, Nat.le_of_ble_eq_true rfl⟩ ⟨Nat.zero_le _, Nat.zero_le _⟩ (st1 := [.int q1]) rfl dX3_ofAll_48 (fun H locs Z => ?_)
      cases hf
      exact z_iret X Z dX3_ofAll_51
    · have hf := zif_f b2 hf
      by_cases b3 : x1 = 2
      · have hf := zif_t b3 hf
        refine lv_tableIn (tgt := 52) X.x X.b dX3_ofAll_1 (zt_lo b3 (by decide)) (zt_hi b3 (by decide)) (zt_at (off := 51) b3 rfl) (by decide) ?_
        refine lv_aload_n X.x X.b dX3_ofAll_52 rfl (lv_at hl 0 rfl) ?_
        refine z_gf inG_X3 (ci := 3) rfl 3 (Nat.le_of_ble_eq_true rfl) rfl X Z wd_111 0 rfl (v := .int reached) rfl dX3_ofAll_53 ?_
        cases hf
        exact z_iret X Z dX3_ofAll_56
      · have hf := zif_f b3 hf
        by_cases b4 : x1 = 3
        · have hf := zif_t b4 hf
          refine lv_tableIn (tgt := 57) X.x X.b dX3_ofAll_1 (zt_lo b4 (by decide)) (zt_hi b4 (by decide)) (zt_at (off := 56) b4 rfl) (by decide) ?_
          refine lv_aload_n X.x X.b dX3_ofAll_57 rfl (lv_at hl 0 rfl) ?_
          refine z_gf inG_X3 (ci := 3) rfl 4 (Nat.le_of_ble_eq_true rfl) rfl X Z wd_112 0 rfl (v := .int lost) rfl dX3_ofAll_58 ?_
          cases hf
          exact z_iret X Z dX3_ofAll_61
        · have hf := zif_f b4 hf
          by_cases b5 : x1 = 4
          · have hf := zif_t b5 hf
            refine lv_tableIn (tgt := 62) X.x X.b dX3_ofAll_1 (zt_lo b5 (by decide)) (zt_hi b5 (by decide)) (zt_at (off := 61) b5 rfl) (by decide) ?_
            refine lv_aload_n X.x X.b dX3_ofAll_62 rfl (lv_at hl 0 rfl) ?_
            refine z_gf inG_X3 (ci := 3) rfl 1 (Nat.le_of_ble_eq_true rfl) rfl X Z wd_107 0 rfl (v := .ref (ad 6)) rfl dX3_ofAll_63 ?_
            obtain ⟨q2, hq2, hf⟩ := zb_ok hf
            refine z_callV X Z hl (mX0_sumOfWordsRead l Δ (fun j => ad (j + 6)) told rea wread ltold lout hq2) wd_325 wd_326 wd_327 wd_22 wd_328 ok_X0_sumOfWordsRead 0 rfl 6 rfl (w' := (wX3 Δ ad reached lost size plots cliffs words needs told rea wread ltold lout sets)) su_4 fs_4 pu_4 rfl (rest := []) rfl (Nat.le_of_ble_eq_true rfl) ⟨Nat.le_of_ble_eq_true rfl, Nat.le_of_ble_eq_true rfl⟩ ⟨Nat.zero_le _, Nat.zero_le _⟩ (st1 := [.int q2]) rfl dX3_ofAll_66 (fun H locs Z => ?_)
            cases hf
            exact z_iret X Z dX3_ofAll_69
          · have hf := zif_f b5 hf
            refine lv_tableOut (tgt := 70) X.x X.b dX3_ofAll_1 (by have := (x1 : Int32).toInt; have := zt_ne (n := 0) b1 (by decide); have := zt_ne (n := 1) b2 (by decide); have := zt_ne (n := 2) b3 (by decide); have := zt_ne (n := 3) b4 (by decide); have := zt_ne (n := 4) b5 (by decide); omega) (by decide) ?_
            refine lv_aload_n X.x X.b dX3_ofAll_70 rfl (lv_at hl 0 rfl) ?_
            refine z_gf inG_X3 (ci := 3) rfl 1 (Nat.le_of_ble_eq_true rfl) rfl X Z wd_107 0 rfl (v := .ref (ad 6)) rfl dX3_ofAll_71 ?_
            refine lv_aload_n X.x X.b dX3_ofAll_74 rfl (lv_at hl 0 rfl) ?_
            refine z_gf inG_X3 (ci := 3) rfl 0 (Nat.le_of_ble_eq_true rfl) rfl X Z wd_105 0 rfl (v := .ref (ad 1)) rfl dX3_ofAll_75 ?_
            obtain ⟨q3, hq3, hf⟩ := zb_ok hf
            refine z_callV X Z hl (mX4_everyPart l Δ (fun j => ad (j + 1)) size plots cliffs words needs hq3) wd_329 wd_330 wd_331 wd_21 wd_332 ok_X4_everyPart 4 rfl 1 rfl (w' := (wX3 Δ ad reached lost size plots cliffs words needs told rea wread ltold lout sets)) su_5 fs_5 pu_5 rfl (rest := [.ref (ad 6)]) rfl (Nat.le_of_ble_eq_true rfl) ⟨Nat.le_of_ble_eq_true rfl, Nat.le_of_ble_eq_true rfl⟩ ⟨Nat.zero_le _, Nat.zero_le _⟩ (st1 := [.int q3, .ref (ad 6)]) rfl dX3_ofAll_78 (fun H locs Z => ?_)
            obtain ⟨q4, hq4, hf⟩ := zb_ok hf
            refine z_callV X Z hl (mX0_howManyKnowAll l Δ (fun j => ad (j + 6)) told rea wread ltold lout q3 hq4) wd_333 wd_334 wd_335 wd_22 wd_336 ok_X0_howManyKnowAll 0 rfl 6 rfl (w' := (wX3 Δ ad reached lost size plots cliffs words needs told rea wread ltold lout sets)) su_4 fs_4 pu_4 rfl (rest := []) rfl (Nat.le_of_ble_eq_true rfl) ⟨Nat.le_of_ble_eq_true rfl, Nat.le_of_ble_eq_true rfl⟩ ⟨Nat.zero_le _, Nat.zero_le _⟩ (st1 := [.int q4]) rfl dX3_ofAll_81 (fun H locs Z => ?_)
            cases hf
            exact z_iret X Z dX3_ofAll_84
set_option maxRecDepth 100000 in
set_option maxHeartbeats 4000000 in
theorem mX3_bestPart (l : Launch) (Δ : zE) (ad : Nat → Nat) (reached : Int32) (lost : Int32) (size : Int32) (plots : Nat → Int32) (cliffs : Nat → Int32) (words : Nat → Int32) (needs : Nat → Int32) (told : Nat → Int32) (rea : Nat → Int32) (wread : Nat → Int32) (ltold : Nat → Int32) (lout : Nat → Int32) (sets : Nat → Int32) (x1 : Int32) {res : Int32} (hf : fX3_bestPart size words needs told rea sets x1 = some res) : zMet l Δ yX3_bestPart cX3_bestPart 9 (some .int) 4 92 [.ref (ad 0), .int x1] (wX3 Δ ad reached lost size plots cliffs words needs told rea wread ltold lout sets) (wX3 Δ ad reached lost size plots cliffs words needs told rea wread ltold lout sets) (some (.int res)) := by
  refine z_start (by decide +kernel) (Nat.le_of_ble_eq_true rfl) ?_
  intro p e s m args below meth c A ls X Z hl
  have hl : lv_has ls 9 [(0, .ref (ad 0)), (1, .int x1)] := hl
  have L10 : ∀ (k : Nat) (size : Int32) (words : Nat → Int32) (needs : Nat → Int32) (told : Nat → Int32) (rea : Nat → Int32) (sets : Nat → Int32) (v1 : Int32) (v2 : Int32) (v3 : Int32) (v4 : Int32) (v5 : Int32), fX3_bestPart_10 k size words needs told rea sets v1 v2 v3 v4 v5 = some res → ∀ (H : Heap) (locs : List Loc) (ls : Array Slot), zW Δ A s.heap (wX3 Δ ad reached lost size plots cliffs words needs told rea wread ltold lout sets) H locs → lv_has ls 9 [(0, .ref (ad 0)), (1, .int v1), (2, .int v2), (3, .int v3), (4, .int v4), (5, .int v5)] → W p l e { frames := 4, cells := 0, slots := 0, locals := 92 } s m args below meth c H locs 0 0 (zEnd Δ below args s 0 0 A (some (.int res)) (wX3 Δ ad reached lost size plots cliffs words needs told rea wread ltold lout sets)) (F0 m 10 ls []) := by
    intro k
    induction k with
    | zero =>
      intro size words needs told rea sets v1 v2 v3 v4 v5 hf
      rw [fX3_bestPart_10.eq_1] at hf
      cases hf
    | succ k ih =>
      intro size words needs told rea sets v1 v2 v3 v4 v5 hf H locs ls Z hl
      rw [fX3_bestPart_10.eq_2] at hf
      refine lv_iload X.x X.b dX3_bestPart_10 (lv_at hl 5 rfl) ?_
      refine lv_aload_n X.x X.b dX3_bestPart_12 rfl (lv_at hl 0 rfl) ?_
      refine z_gf inG_X3 (ci := 3) rfl 0 (Nat.le_of_ble_eq_true rfl) rfl X Z wd_105 0 rfl (v := .ref (ad 1)) rfl dX3_bestPart_13 ?_
      refine z_gf inG_X4 (ci := 4) rfl 0 (Nat.le_of_ble_eq_true rfl) rfl X Z wd_57 1 rfl (v := .int size) rfl dX3_bestPart_16 ?_
      refine lv_icmp_ge (tgt := 107) X.x X.b dX3_bestPart_19 (by decide) (fun b1 => ?_) (fun b1 => ?_)
      · have hf := zif_t b1 hf
        refine lv_iload_n X.x X.b dX3_bestPart_107 rfl (lv_at hl 2 rfl) ?_
        cases hf
        exact z_iret X Z dX3_bestPart_108
      · have hf := zif_f b1 hf
        refine lv_aload_n X.x X.b dX3_bestPart_22 rfl (lv_at hl 0 rfl) ?_
        refine z_gf inG_X3 (ci := 3) rfl 1 (Nat.le_of_ble_eq_true rfl) rfl X Z wd_107 0 rfl (v := .ref (ad 6)) rfl dX3_bestPart_23 ?_
        refine lv_iload_n X.x X.b dX3_bestPart_26 rfl (lv_at hl 1 rfl) ?_
        refine lv_iload X.x X.b dX3_bestPart_27 (lv_at hl 5 rfl) ?_
        obtain ⟨q1, hq1, hf⟩ := zb_ok hf
        refine z_callV X Z hl (mX0_hasRead l Δ (fun j => ad (j + 6)) told rea wread ltold lout v1 v5 hq1) wd_498 wd_424 wd_425 wd_22 wd_426 ok_X0_hasRead 0 rfl 6 rfl (w' := (wX3 Δ ad reached lost size plots cliffs words needs told rea wread ltold lout sets)) su_4 fs_4 pu_4 rfl (rest := []) rfl (Nat.le_of_ble_eq_true rfl) ⟨Nat.le_of_ble_eq_true rfl, Nat.le_of_ble_eq_true rfl⟩ ⟨Nat.zero_le _, Nat.zero_le _⟩ (st1 := [.int q1]) rfl dX3_bestPart_29 (fun H locs Z => ?_)
        refine lv_if_ne (tgt := 101) X.x X.b dX3_bestPart_32 (by decide) (fun b2 => ?_) (fun b2 => ?_)
        · have hf := zif_f b2 hf
          refine lv_iinc (v := (v5 + 1)) (lv' := [(5, .int (v5 + 1)), (0, .ref (ad 0)), (1, .int v1), (2, .int v2), (3, .int v3), (4, .int v4)]) X.x X.b dX3_bestPart_101 hl (k := 5) rfl (congrArg _ ki_1) (Nat.le_of_ble_eq_true rfl) rfl (fun ls hl => ?_)
          refine lv_goto (tgt := 10) X.x X.b dX3_bestPart_104 (by decide) ?_
          exact ih size words needs told rea sets v1 v2 v3 v4 (v5 + 1) hf _ _ _ Z (lv_sub hl [1, 2, 3, 4, 5, 0] rfl)
        · have hf := zif_t b2 hf
          refine lv_aload_n X.x X.b dX3_bestPart_35 rfl (lv_at hl 0 rfl) ?_
          refine lv_iload_n X.x X.b dX3_bestPart_36 rfl (lv_at hl 1 rfl) ?_
          refine lv_iload X.x X.b dX3_bestPart_37 (lv_at hl 5 rfl) ?_
          refine lv_iconst (v := 3) X.x X.b dX3_bestPart_39 ki_3 ?_
          obtain ⟨q2, hq2, hf⟩ := zb_ok hf
          refine z_callV X Z hl (mX3_ofRecap l Δ ad reached lost size plots cliffs words needs told rea wread ltold lout sets v1 v5 3 hq2) wd_662 wd_651 wd_652 wd_20 wd_653 ok_X3_ofRecap 3 rfl 0 rfl (w' := (wX3 Δ ad reached lost size plots cliffs words needs told rea wread ltold lout sets)) su_6 fs_6 pu_6 rfl (rest := []) rfl (Nat.le_of_ble_eq_true rfl) ⟨Nat.le_of_ble_eq_true rfl, Nat.le_of_ble_eq_true rfl⟩ ⟨Nat.zero_le _, Nat.zero_le _⟩ (st1 := [.int q2]) rfl dX3_bestPart_40 (fun H locs Z => ?_)
          refine lv_istore (lv' := [(6, .int q2), (0, .ref (ad 0)), (1, .int v1), (2, .int v2), (3, .int v3), (4, .int v4), (5, .int v5)]) X.x X.b dX3_bestPart_43 hl (Nat.le_of_ble_eq_true rfl) rfl (fun ls hl => ?_)
          refine lv_aload_n X.x X.b dX3_bestPart_45 rfl (lv_at hl 1 rfl) ?_
          refine lv_iload_n X.x X.b dX3_bestPart_46 rfl (lv_at hl 2 rfl) ?_
          refine lv_iload X.x X.b dX3_bestPart_47 (lv_at hl 6 rfl) ?_
          refine lv_iconst (v := 4) X.x X.b dX3_bestPart_49 ki_4 ?_
          obtain ⟨q3, hq3, hf⟩ := zb_ok hf
          refine z_callV X Z hl (mX3_ofRecap l Δ ad reached lost size plots cliffs words needs told rea wread ltold lout sets v1 v5 4 hq3) wd_662 wd_651 wd_652 wd_20 wd_653 ok_X3_ofRecap 3 rfl 0 rfl (w' := (wX3 Δ ad reached lost size plots cliffs words needs told rea wread ltold lout sets)) su_6 fs_6 pu_6 rfl (rest := []) rfl (Nat.le_of_ble_eq_true rfl) ⟨Nat.le_of_ble_eq_true rfl, Nat.le_of_ble_eq_true rfl⟩ ⟨Nat.zero_le _, Nat.zero_le _⟩ (st1 := [.int q3]) rfl dX3_bestPart_50 (fun H locs Z => ?_)
          refine lv_istore (lv' := [(7, .int q3), (6, .int q2), (0, .ref (ad 0)), (1, .int v1), (2, .int v2), (3, .int v3), (4, .int v4), (5, .int v5)]) X.x X.b dX3_bestPart_53 hl (Nat.le_of_ble_eq_true rfl) rfl (fun ls hl => ?_)
          refine lv_iload X.x X.b dX3_bestPart_55 (lv_at hl 1 rfl) ?_
          refine lv_iload_n X.x X.b dX3_bestPart_57 rfl (lv_at hl 5 rfl) ?_
          refine lv_icmp_lt (tgt := 74) X.x X.b dX3_bestPart_58 (by decide) (fun b3 => ?_) (fun b3 => ?_)
          · have hf := zif_t b3 hf
            refine lv_iconst (v := 1) X.x X.b dX3_bestPart_74 ki_1 ?_
            refine lv_goto (tgt := 79) X.x X.b dX3_bestPart_75 (by decide) ?_
            refine lv_istore (lv' := [(8, .int 1), (7, .int q3), (6, .int q2), (0, .ref (ad 0)), (1, .int v1), (2, .int v2), (3, .int v3), (4, .int v4), (5, .int v5)]) X.x X.b dX3_bestPart_79 hl (Nat.le_of_ble_eq_true rfl) rfl (fun ls hl => ?_)
            refine lv_iload_n X.x X.b dX3_bestPart_81 rfl (lv_at hl 5 rfl) ?_
            refine lv_iconst (v := (-1)) X.x X.b dX3_bestPart_82 ki_m1 ?_
            refine lv_icmp_eq (tgt := 91) X.x X.b dX3_bestPart_83 (by decide) (fun b4 => ?_) (fun b4 => ?_)
            · have hf := zif_t b4 hf
              refine lv_iload X.x X.b dX3_bestPart_91 (lv_at hl 8 rfl) ?_
              refine lv_istore_n (lv' := [(2, .int v5), (8, .int 1), (7, .int q3), (6, .int q2), (0, .ref (ad 0)), (1, .int v1), (3, .int v3), (4, .int v4), (5, .int v5)]) X.x X.b dX3_bestPart_93 rfl hl (Nat.le_of_ble_eq_true rfl) rfl (fun ls hl => ?_)
              refine lv_iload X.x X.b dX3_bestPart_94 (lv_at hl 3 rfl) ?_
              refine lv_istore_n (lv' := [(3, .int q2), (2, .int v5), (8, .int 1), (7, .int q3), (6, .int q2), (0, .ref (ad 0)), (1, .int v1), (4, .int v4), (5, .int v5)]) X.x X.b dX3_bestPart_96 rfl hl (Nat.le_of_ble_eq_true rfl) rfl (fun ls hl => ?_)
              refine lv_iload X.x X.b dX3_bestPart_97 (lv_at hl 3 rfl) ?_
              refine lv_istore (lv' := [(4, .int q3), (3, .int q2), (2, .int v5), (8, .int 1), (7, .int q3), (6, .int q2), (0, .ref (ad 0)), (1, .int v1), (5, .int v5)]) X.x X.b dX3_bestPart_99 hl (Nat.le_of_ble_eq_true rfl) rfl (fun ls hl => ?_)
              refine lv_iinc (v := (v5 + 1)) (lv' := [(5, .int (v5 + 1)), (4, .int q3), (3, .int q2), (2, .int v5), (8, .int 1), (7, .int q3), (6, .int q2), (0, .ref (ad 0)), (1, .int v1)]) X.x X.b dX3_bestPart_101 hl (k := 8) rfl (congrArg _ ki_1) (Nat.le_of_ble_eq_true rfl) rfl (fun ls hl => ?_)
              refine lv_goto (tgt := 10) X.x X.b dX3_bestPart_104 (by decide) ?_
              exact ih size words needs told rea sets v1 v5 q2 q3 (v5 + 1) hf _ _ _ Z (lv_sub hl [7, 8, 3, 2, 1, 0] rfl)
            · have hf := zif_f b4 hf
              refine lv_iload X.x X.b dX3_bestPart_86 (lv_at hl 0 rfl) ?_
              refine lv_if_eq (tgt := 101) X.x X.b dX3_bestPart_88 (by decide) (fun h => absurd h (by decide)) (fun _ => ?_)
              refine lv_iload X.x X.b dX3_bestPart_91 (lv_at hl 8 rfl) ?_
              refine lv_istore_n (lv' := [(2, .int v5), (8, .int 1), (7, .int q3), (6, .int q2), (0, .ref (ad 0)), (1, .int v1), (3, .int v3), (4, .int v4), (5, .int v5)]) X.x X.b dX3_bestPart_93 rfl hl (Nat.le_of_ble_eq_true rfl) rfl (fun ls hl => ?_)
              refine lv_iload X.x X.b dX3_bestPart_94 (lv_at hl 3 rfl) ?_
              refine lv_istore_n (lv' := [(3, .int q2), (2, .int v5), (8, .int 1), (7, .int q3), (6, .int q2), (0, .ref (ad 0)), (1, .int v1), (4, .int v4), (5, .int v5)]) X.x X.b dX3_bestPart_96 rfl hl (Nat.le_of_ble_eq_true rfl) rfl (fun ls hl => ?_)
              refine lv_iload X.x X.b dX3_bestPart_97 (lv_at hl 3 rfl) ?_
              refine lv_istore (lv' := [(4, .int q3), (3, .int q2), (2, .int v5), (8, .int 1), (7, .int q3), (6, .int q2), (0, .ref (ad 0)), (1, .int v1), (5, .int v5)]) X.x X.b dX3_bestPart_99 hl (Nat.le_of_ble_eq_true rfl) rfl (fun ls hl => ?_)
              refine lv_iinc (v := (v5 + 1)) (lv' := [(5, .int (v5 + 1)), (4, .int q3), (3, .int q2), (2, .int v5), (8, .int 1), (7, .int q3), (6, .int q2), (0, .ref (ad 0)), (1, .int v1)]) X.x X.b dX3_bestPart_101 hl (k := 8) rfl (congrArg _ ki_1) (Nat.le_of_ble_eq_true rfl) rfl (fun ls hl => ?_)
              refine lv_goto (tgt := 10) X.x X.b dX3_bestPart_104 (by decide) ?_
              exact ih size words needs told rea sets v1 v5 q2 q3 (v5 + 1) hf _ _ _ Z (lv_sub hl [7, 8, 3, 2, 1, 0] rfl)
          · have hf := zif_f b3 hf
            refine lv_iload X.x X.b dX3_bestPart_61 (lv_at hl 1 rfl) ?_
            refine lv_iload_n X.x X.b dX3_bestPart_63 rfl (lv_at hl 5 rfl) ?_
            refine lv_icmp_ne (tgt := 78) X.x X.b dX3_bestPart_64 (by decide) (fun b5 => ?_) (fun b5 => ?_)
            · have hf := zif_f b5 hf
              refine lv_iconst (v := 0) X.x X.b dX3_bestPart_78 ki_0 ?_
              refine lv_istore (lv' := [(8, .int 0), (7, .int q3), (6, .int q2), (0, .ref (ad 0)), (1, .int v1), (2, .int v2), (3, .int v3), (4, .int v4), (5, .int v5)]) X.x X.b dX3_bestPart_79 hl (Nat.le_of_ble_eq_true rfl) rfl (fun ls hl => ?_)
              refine lv_iload_n X.x X.b dX3_bestPart_81 rfl (lv_at hl 5 rfl) ?_
              refine lv_iconst (v := (-1)) X.x X.b dX3_bestPart_82 ki_m1 ?_
              refine lv_icmp_eq (tgt := 91) X.x X.b dX3_bestPart_83 (by decide) (fun b6 => ?_) (fun b6 => ?_)
              · have hf := zif_t b6 hf
                refine lv_iload X.x X.b dX3_bestPart_91 (lv_at hl 8 rfl) ?_
                refine lv_istore_n (lv' := [(2, .int v5), (8, .int 0), (7, .int q3), (6, .int q2), (0, .ref (ad 0)), (1, .int v1), (3, .int v3), (4, .int v4), (5, .int v5)]) X.x X.b dX3_bestPart_93 rfl hl (Nat.le_of_ble_eq_true rfl) rfl (fun ls hl => ?_)
                refine lv_iload X.x X.b dX3_bestPart_94 (lv_at hl 3 rfl) ?_
                refine lv_istore_n (lv' := [(3, .int q2), (2, .int v5), (8, .int 0), (7, .int q3), (6, .int q2), (0, .ref (ad 0)), (1, .int v1), (4, .int v4), (5, .int v5)]) X.x X.b dX3_bestPart_96 rfl hl (Nat.le_of_ble_eq_true rfl) rfl (fun ls hl => ?_)
                refine lv_iload X.x X.b dX3_bestPart_97 (lv_at hl 3 rfl) ?_
                refine lv_istore (lv' := [(4, .int q3), (3, .int q2), (2, .int v5), (8, .int 0), (7, .int q3), (6, .int q2), (0, .ref (ad 0)), (1, .int v1), (5, .int v5)]) X.x X.b dX3_bestPart_99 hl (Nat.le_of_ble_eq_true rfl) rfl (fun ls hl => ?_)
                refine lv_iinc (v := (v5 + 1)) (lv' := [(5, .int (v5 + 1)), (4, .int q3), (3, .int q2), (2, .int v5), (8, .int 0), (7, .int q3), (6, .int q2), (0, .ref (ad 0)), (1, .int v1)]) X.x X.b dX3_bestPart_101 hl (k := 8) rfl (congrArg _ ki_1) (Nat.le_of_ble_eq_true rfl) rfl (fun ls hl => ?_)
                refine lv_goto (tgt := 10) X.x X.b dX3_bestPart_104 (by decide) ?_
                exact ih size words needs told rea sets v1 v5 q2 q3 (v5 + 1) hf _ _ _ Z (lv_sub hl [7, 8, 3, 2, 1, 0] rfl)
              · have hf := zif_f b6 hf
                refine lv_iload X.x X.b dX3_bestPart_86 (lv_at hl 0 rfl) ?_
                refine lv_if_eq (tgt := 101) X.x X.b dX3_bestPart_88 (by decide) (fun _ => ?_) (fun h => absurd h (by decide))
                refine lv_iinc (v := (v5 + 1)) (lv' := [(5, .int (v5 + 1)), (8, .int 0), (7, .int q3), (6, .int q2), (0, .ref (ad 0)), (1, .int v1), (2, .int v2), (3, .int v3), (4, .int v4)]) X.x X.b dX3_bestPart_101 hl (k := 8) rfl (congrArg _ ki_1) (Nat.le_of_ble_eq_true rfl) rfl (fun ls hl => ?_)
                refine lv_goto (tgt := 10) X.x X.b dX3_bestPart_104 (by decide) ?_
                exact ih size words needs told rea sets v1 v2 v3 v4 (v5 + 1) hf _ _ _ Z (lv_sub hl [4, 5, 6, 7, 8, 0] rfl)
            · have hf := zif_t b5 hf
              refine lv_iload X.x X.b dX3_bestPart_67 (lv_at hl 0 rfl) ?_
              refine lv_iload X.x X.b dX3_bestPart_69 (lv_at hl 6 rfl) ?_
              refine lv_icmp_ge (tgt := 78) X.x X.b dX3_bestPart_71 (by decide) (fun b7 => ?_) (fun b7 => ?_)
              · have hf := zif_t b7 hf
                refine lv_iconst (v := 0) X.x X.b dX3_bestPart_78 ki_0 ?_
                refine lv_istore (lv' := [(8, .int 0), (7, .int q3), (6, .int q2), (0, .ref (ad 0)), (1, .int v1), (2, .int v2), (3, .int v3), (4, .int v4), (5, .int v5)]) X.x X.b dX3_bestPart_79 hl (Nat.le_of_ble_eq_true rfl) rfl (fun ls hl => ?_)
                refine lv_iload_n X.x X.b dX3_bestPart_81 rfl (lv_at hl 5 rfl) ?_
                refine lv_iconst (v := (-1)) X.x X.b dX3_bestPart_82 ki_m1 ?_
                refine lv_icmp_eq (tgt := 91) X.x X.b dX3_bestPart_83 (by decide) (fun b8 => ?_) (fun b8 => ?_)
                · have hf := zif_t b8 hf
                  refine lv_iload X.x X.b dX3_bestPart_91 (lv_at hl 8 rfl) ?_
                  refine lv_istore_n (lv' := [(2, .int v5), (8, .int 0), (7, .int q3), (6, .int q2), (0, .ref (ad 0)), (1, .int v1), (3, .int v3), (4, .int v4), (5, .int v5)]) X.x X.b dX3_bestPart_93 rfl hl (Nat.le_of_ble_eq_true rfl) rfl (fun ls hl => ?_)
                  refine lv_iload X.x X.b dX3_bestPart_94 (lv_at hl 3 rfl) ?_
                  refine lv_istore_n (lv' := [(3, .int q2), (2, .int v5), (8, .int 0), (7, .int q3), (6, .int q2), (0, .ref (ad 0)), (1, .int v1), (4, .int v4), (5, .int v5)]) X.x X.b dX3_bestPart_96 rfl hl (Nat.le_of_ble_eq_true rfl) rfl (fun ls hl => ?_)
                  refine lv_iload X.x X.b dX3_bestPart_97 (lv_at hl 3 rfl) ?_
                  refine lv_istore (lv' := [(4, .int q3), (3, .int q2), (2, .int v5), (8, .int 0), (7, .int q3), (6, .int q2), (0, .ref (ad 0)), (1, .int v1), (5, .int v5)]) X.x X.b dX3_bestPart_99 hl (Nat.le_of_ble_eq_true rfl) rfl (fun ls hl => ?_)
                  refine lv_iinc (v := (v5 + 1)) (lv' := [(5, .int (v5 + 1)), (4, .int q3), (3, .int q2), (2, .int v5), (8, .int 0), (7, .int q3), (6, .int q2), (0, .ref (ad 0)), (1, .int v1)]) X.x X.b dX3_bestPart_101 hl (k := 8) rfl (congrArg _ ki_1) (Nat.le_of_ble_eq_true rfl) rfl (fun ls hl => ?_)
                  refine lv_goto (tgt := 10) X.x X.b dX3_bestPart_104 (by decide) ?_
                  exact ih size words needs told rea sets v1 v5 q2 q3 (v5 + 1) hf _ _ _ Z (lv_sub hl [7, 8, 3, 2, 1, 0] rfl)
                · have hf := zif_f b8 hf
                  refine lv_iload X.x X.b dX3_bestPart_86 (lv_at hl 0 rfl) ?_
                  refine lv_if_eq (tgt := 101) X.x X.b dX3_bestPart_88 (by decide) (fun _ => ?_) (fun h => absurd h (by decide))
                  refine lv_iinc (v := (v5 + 1)) (lv' := [(5, .int (v5 + 1)), (8, .int 0), (7, .int q3), (6, .int q2), (0, .ref (ad 0)), (1, .int v1), (2, .int v2), (3, .int v3), (4, .int v4)]) X.x X.b dX3_bestPart_101 hl (k := 8) rfl (congrArg _ ki_1) (Nat.le_of_ble_eq_true rfl) rfl (fun ls hl => ?_)
                  refine lv_goto (tgt := 10) X.x X.b dX3_bestPart_104 (by decide) ?_
                  exact ih size words needs told rea sets v1 v2 v3 v4 (v5 + 1) hf _ _ _ Z (lv_sub hl [4, 5, 6, 7, 8, 0] rfl)
              · have hf := zif_f b7 hf
                refine lv_iconst (v := 1) X.x X.b dX3_bestPart_74 ki_1 ?_
                refine lv_goto (tgt := 79) X.x X.b dX3_bestPart_75 (by decide) ?_
                refine lv_istore (lv' := [(8, .int 1), (7, .int q3), (6, .int q2), (0, .ref (ad 0)), (1, .int v1), (2, .int v2), (3, .int v3), (4, .int v4), (5, .int v5)]) X.x X.b dX3_bestPart_79 hl (Nat.le_of_ble_eq_true rfl) rfl (fun ls hl => ?_)
                refine lv_iload_n X.x X.b dX3_bestPart_81 rfl (lv_at hl 5 rfl) ?_
                refine lv_iconst (v := (-1)) X.x X.b dX3_bestPart_82 ki_m1 ?_
                refine lv_icmp_eq (tgt := 91) X.x X.b dX3_bestPart_83 (by decide) (fun b9 => ?_) (fun b9 => ?_)
                · have hf := zif_t b9 hf
                  refine lv_iload X.x X.b dX3_bestPart_91 (lv_at hl 8 rfl) ?_
                  refine lv_istore_n (lv' := [(2, .int v5), (8, .int 1), (7, .int q3), (6, .int q2), (0, .ref (ad 0)), (1, .int v1), (3, .int v3), (4, .int v4), (5, .int v5)]) X.x X.b dX3_bestPart_93 rfl hl (Nat.le_of_ble_eq_true rfl) rfl (fun ls hl => ?_)
                  refine lv_iload X.x X.b dX3_bestPart_94 (lv_at hl 3 rfl) ?_
                  refine lv_istore_n (lv' := [(3, .int q2), (2, .int v5), (8, .int 1), (7, .int q3), (6, .int q2), (0, .ref (ad 0)), (1, .int v1), (4, .int v4), (5, .int v5)]) X.x X.b dX3_bestPart_96 rfl hl (Nat.le_of_ble_eq_true rfl) rfl (fun ls hl => ?_)
                  refine lv_iload X.x X.b dX3_bestPart_97 (lv_at hl 3 rfl) ?_
                  refine lv_istore (lv' := [(4, .int q3), (3, .int q2), (2, .int v5), (8, .int 1), (7, .int q3), (6, .int q2), (0, .ref (ad 0)), (1, .int v1), (5, .int v5)]) X.x X.b dX3_bestPart_99 hl (Nat.le_of_ble_eq_true rfl) rfl (fun ls hl => ?_)
                  refine lv_iinc (v := (v5 + 1)) (lv' := [(5, .int (v5 + 1)), (4, .int q3), (3, .int q2), (2, .int v5), (8, .int 1), (7, .int q3), (6, .int q2), (0, .ref (ad 0)), (1, .int v1)]) X.x X.b dX3_bestPart_101 hl (k := 8) rfl (congrArg _ ki_1) (Nat.le_of_ble_eq_true rfl) rfl (fun ls hl => ?_)
                  refine lv_goto (tgt := 10) X.x X.b dX3_bestPart_104 (by decide) ?_
                  exact ih size words needs told rea sets v1 v5 q2 q3 (v5 + 1) hf _ _ _ Z (lv_sub hl [7, 8, 3, 2, 1, 0] rfl)
                · have hf := zif_f b9 hf
                  refine lv_iload X.x X.b dX3_bestPart_86 (lv_at hl 0 rfl) ?_
                  refine lv_if_eq (tgt := 101) X.x X.b dX3_bestPart_88 (by decide) (fun h => absurd h (by decide)) (fun _ => ?_)
                  refine lv_iload X.x X.b dX3_bestPart_91 (lv_at hl 8 rfl) ?_
                  refine lv_istore_n (lv' := [(2, .int v5), (8, .int 1), (7, .int q3), (6, .int q2), (0, .ref (ad 0)), (1, .int v1), (3, .int v3), (4, .int v4), (5, .int v5)]) X.x X.b dX3_bestPart_93 rfl hl (Nat.le_of_ble_eq_true rfl) rfl (fun ls hl => ?_)
                  refine lv_iload X.x X.b dX3_bestPart_94 (lv_at hl 3 rfl) ?_
                  refine lv_istore_n (lv' := [(3, .int q2), (2, .int v5), (8, .int 1), (7, .int q3), (6, .int q2), (0, .ref (ad 0)), (1, .int v1), (4, .int v4), (5, .int v5)]) X.x X.b dX3_bestPart_96 rfl hl (Nat.le_of_ble_eq_true rfl) rfl (fun ls hl => ?_)
                  refine lv_iload X.x X.b dX3_bestPart_97 (lv_at hl 3 rfl) ?_
                  refine lv_istore (lv' := [(4, .int q3), (3, .int q2), (2, .int v5), (8, .int 1), (7, .int q3), (6, .int q2), (0, .ref (ad 0)), (1, .int v1), (5, .int v5)]) X.x X.b dX3_bestPart_99 hl (Nat.le_of_ble_eq_true rfl) rfl (fun ls hl => ?_)
                  refine lv_iinc (v := (v5 + 1)) (lv' := [(5, .int (v5 + 1)), (4, .int q3), (3, .int q2), (2, .int v5), (8, .int 1), (7, .int q3), (6, .int q2), (0, .ref (ad 0)), (1, .int v1)]) X.x X.b dX3_bestPart_101 hl (k := 8) rfl (congrArg _ ki_1) (Nat.le_of_ble_eq_true rfl) rfl (fun ls hl => ?_)
                  refine lv_goto (tgt := 10) X.x X.b dX3_bestPart_104 (by decide) ?_
                  exact ih size words needs told rea sets v1 v5 q2 q3 (v5 + 1) hf _ _ _ Z (lv_sub hl [7, 8, 3, 2, 1, 0] rfl)
  rw [fX3_bestPart.eq_1] at hf
  refine lv_iconst (v := (-1)) X.x X.b dX3_bestPart_0 ki_m1 ?_
  refine lv_istore_n (lv' := [(2, .int (-1)), (0, .ref (ad 0)), (1, .int x1)]) X.x X.b dX3_bestPart_1 rfl hl (Nat.le_of_ble_eq_true rfl) rfl (fun ls hl => ?_)
  refine lv_iconst (v := 0) X.x X.b dX3_bestPart_2 ki_0 ?_
  refine lv_istore_n (lv' := [(3, .int 0), (2, .int (-1)), (0, .ref (ad 0)), (1, .int x1)]) X.x X.b dX3_bestPart_3 rfl hl (Nat.le_of_ble_eq_true rfl) rfl (fun ls hl => ?_)
  refine lv_iconst (v := 0) X.x X.b dX3_bestPart_4 ki_0 ?_
  refine lv_istore (lv' := [(4, .int 0), (3, .int 0), (2, .int (-1)), (0, .ref (ad 0)), (1, .int x1)]) X.x X.b dX3_bestPart_5 hl (Nat.le_of_ble_eq_true rfl) rfl (fun ls hl => ?_)
  refine lv_iconst (v := 0) X.x X.b dX3_bestPart_7 ki_0 ?_
  refine lv_istore (lv' := [(5, .int 0), (4, .int 0), (3, .int 0), (2, .int (-1)), (0, .ref (ad 0)), (1, .int x1)]) X.x X.b dX3_bestPart_8 hl (Nat.le_of_ble_eq_true rfl) rfl (fun ls hl => ?_)
  exact L10 zfuel size words needs told rea sets x1 (-1) 0 0 0 hf _ _ _ Z (lv_sub hl [4, 5, 3, 2, 1, 0] rfl)
set_option maxRecDepth 100000 in
set_option maxHeartbeats 4000000 in
theorem mX3_linesForAll (l : Launch) (Δ : zE) (ad : Nat → Nat) (reached : Int32) (lost : Int32) (size : Int32) (plots : Nat → Int32) (cliffs : Nat → Int32) (words : Nat → Int32) (needs : Nat → Int32) (told : Nat → Int32) (rea : Nat → Int32) (wread : Nat → Int32) (ltold : Nat → Int32) (lout : Nat → Int32) (sets : Nat → Int32) (x1 : Int32) {res : Int32} (hf : fX3_linesForAll size needs told rea x1 = some res) : zMet l Δ yX3_linesForAll cX3_linesForAll 4 (some .int) 3 67 [.ref (ad 0), .int x1] (wX3 Δ ad reached lost size plots cliffs words needs told rea wread ltold lout sets) (wX3 Δ ad reached lost size plots cliffs words needs told rea wread ltold lout sets) (some (.int res)) := by
  refine z_start (by decide +kernel) (Nat.le_of_ble_eq_true rfl) ?_
  intro p e s m args below meth c A ls X Z hl
  have hl : lv_has ls 4 [(0, .ref (ad 0)), (1, .int x1)] := hl
  have L4 : ∀ (k : Nat) (size : Int32) (needs : Nat → Int32) (told : Nat → Int32) (rea : Nat → Int32) (v1 : Int32) (v2 : Int32) (v3 : Int32), fX3_linesForAll_4 k size needs told rea v1 v2 v3 = some res → ∀ (H : Heap) (locs : List Loc) (ls : Array Slot), zW Δ A s.heap (wX3 Δ ad reached lost size plots cliffs words needs told rea wread ltold lout sets) H locs → lv_has ls 4 [(0, .ref (ad 0)), (1, .int v1), (2, .int v2), (3, .int v3)] → W p l e { frames := 3, cells := 0, slots := 0, locals := 67 } s m args below meth c H locs 0 0 (zEnd Δ below args s 0 0 A (some (.int res)) (wX3 Δ ad reached lost size plots cliffs words needs told rea wread ltold lout sets)) (F0 m 4 ls []) := by
    intro k
    induction k with
    | zero =>
      intro size needs told rea v1 v2 v3 hf
      rw [fX3_linesForAll_4.eq_1] at hf
      cases hf
    | succ k ih =>
      intro size needs told rea v1 v2 v3 hf H locs ls Z hl
      rw [fX3_linesForAll_4.eq_2] at hf
      refine lv_iload_n X.x X.b dX3_linesForAll_4 rfl (lv_at hl 3 rfl) ?_
      refine lv_aload_n X.x X.b dX3_linesForAll_5 rfl (lv_at hl 0 rfl) ?_
      refine z_gf inG_X3 (ci := 3) rfl 0 (Nat.le_of_ble_eq_true rfl) rfl X Z wd_105 0 rfl (v := .ref (ad 1)) rfl dX3_linesForAll_6 ?_
      refine z_gf inG_X4 (ci := 4) rfl 0 (Nat.le_of_ble_eq_true rfl) rfl X Z wd_57 1 rfl (v := .int size) rfl dX3_linesForAll_9 ?_
      refine lv_icmp_ge (tgt := 47) X.x X.b dX3_linesForAll_12 (by decide) (fun b1 => ?_) (fun b1 => ?_)
      · have hf := zif_t b1 hf
        refine lv_iload_n X.x X.b dX3_linesForAll_47 rfl (lv_at hl 2 rfl) ?_
        cases hf
        exact z_iret X Z dX3_linesForAll_48
      · have hf := zif_f b1 hf
        refine lv_aload_n X.x X.b dX3_linesForAll_15 rfl (lv_at hl 0 rfl) ?_
        refine z_gf inG_X3 (ci := 3) rfl 1 (Nat.le_of_ble_eq_true rfl) rfl X Z wd_107 0 rfl (v := .ref (ad 6)) rfl dX3_linesForAll_16 ?_
        refine lv_iload_n X.x X.b dX3_linesForAll_19 rfl (lv_at hl 1 rfl) ?_
        refine lv_iload_n X.x X.b dX3_linesForAll_20 rfl (lv_at hl 3 rfl) ?_
        obtain ⟨q1, hq1, hf⟩ := zb_ok hf
        refine z_callV X Z hl (mX0_hasRead l Δ (fun j => ad (j + 6)) told rea wread ltold lout v1 v3 hq1) wd_498 wd_424 wd_425 wd_22 wd_426 ok_X0_hasRead 0 rfl 6 rfl (w' := (wX3 Δ ad reached lost size plots cliffs words needs told rea wread ltold lout sets)) su_4 fs_4 pu_4 rfl (rest := []) rfl (Nat.le_of_ble_eq_true rfl) ⟨Nat.le_of_ble_eq_true rfl, Nat.le_of_ble_eq_true rfl⟩ ⟨Nat.zero_le _, Nat.zero_le _⟩ (st1 := [.int q1]) rfl dX3_linesForAll_21 (fun H locs Z => ?_)
        refine lv_if_ne (tgt := 41) X.x X.b dX3_linesForAll_24 (by decide) (fun b2 => ?_) (fun b2 => ?_)
        · have hf := zif_f b2 hf
          refine lv_iinc (v := (v3 + 1)) (lv' := [(3, .int (v3 + 1)), (0, .ref (ad 0)), (1, .int v1), (2, .int v2)]) X.x X.b dX3_linesForAll_41 hl (k := 3) rfl (congrArg _ ki_1) (Nat.le_of_ble_eq_true rfl) rfl (fun ls hl => ?_)
          refine lv_goto (tgt := 4) X.x X.b dX3_linesForAll_44 (by decide) ?_
          exact ih size needs told rea v1 v2 (v3 + 1) hf _ _ _ Z (lv_sub hl [1, 2, 3, 0] rfl)
        · have hf := zif_t b2 hf
          refine lv_iload_n X.x X.b dX3_linesForAll_27 rfl (lv_at hl 2 rfl) ?_
          refine lv_aload_n X.x X.b dX3_linesForAll_28 rfl (lv_at hl 0 rfl) ?_
          refine lv_iload_n X.x X.b dX3_linesForAll_29 rfl (lv_at hl 1 rfl) ?_
          refine lv_iload_n X.x X.b dX3_linesForAll_30 rfl (lv_at hl 3 rfl) ?_
          obtain ⟨q2, hq2, hf⟩ := zb_ok hf
          refine z_callV X Z hl (mX3_missedParts l Δ ad reached lost size plots cliffs words needs told rea wread ltold lout sets v1 v3 hq2) wd_461 wd_463 wd_4 wd_20 wd_464 ok_X3_missedParts 3 rfl 0 rfl (w' := (wX3 Δ ad reached lost size plots cliffs words needs told rea wread ltold lout sets)) su_6 fs_6 pu_6 rfl (rest := [.int v2]) rfl (Nat.le_of_ble_eq_true rfl) ⟨Nat.le_of_ble_eq_true rfl, Nat.le_of_ble_eq_true rfl⟩ ⟨Nat.zero_le _, Nat.zero_le _⟩ (st1 := [.int q2, .int v2]) rfl dX3_linesForAll_31 (fun H locs Z => ?_)
          obtain ⟨q3, hq3, hf⟩ := zb_ok hf
          refine z_callS X Z hl (mJ6_bitCount_0f7a4 l Δ  q2 hq3) wd_475 wd_429 wd_33 wd_430 ok_J6_bitCount_0f7a4 (w' := (wX3 Δ ad reached lost size plots cliffs words needs told rea wread ltold lout sets)) zSub_nil rfl zput_nil rfl (rest := [.int v2]) rfl (Nat.le_of_ble_eq_true rfl) ⟨Nat.le_of_ble_eq_true rfl, Nat.le_of_ble_eq_true rfl⟩ ⟨Nat.zero_le _, Nat.zero_le _⟩ (st1 := [.int q3, .int v2]) rfl dX3_linesForAll_34 (fun H locs Z => ?_)
          refine va_mmax X.x X.b (X.1.2.2.1.trans hl.1.symm) X.own (X.ts _ wd_671) (X.ts _ wd_672) (X.ts _ wd_34) (X.ts _ wd_673) (Nat.le_of_ble_eq_true rfl) (Nat.le_of_ble_eq_true rfl) (Nat.zero_le _) (Nat.zero_le _) dX3_linesForAll_37 ?_
          refine lv_istore_n (lv' := [(2, .int (if v2 < q3 then q3 else v2)), (0, .ref (ad 0)), (1, .int v1), (3, .int v3)]) X.x X.b dX3_linesForAll_40 rfl hl (Nat.le_of_ble_eq_true rfl) rfl (fun ls hl => ?_)
          refine lv_iinc (v := (v3 + 1)) (lv' := [(3, .int (v3 + 1)), (2, .int (if v2 < q3 then q3 else v2)), (0, .ref (ad 0)), (1, .int v1)]) X.x X.b dX3_linesForAll_41 hl (k := 3) rfl (congrArg _ ki_1) (Nat.le_of_ble_eq_true rfl) rfl (fun ls hl => ?_)
          refine lv_goto (tgt := 4) X.x X.b dX3_linesForAll_44 (by decide) ?_
          exact ih size needs told rea v1 (if v2 < q3 then q3 else v2) (v3 + 1) hf _ _ _ Z (lv_sub hl [2, 3, 1, 0] rfl)
  rw [fX3_linesForAll.eq_1] at hf
  refine lv_iconst (v := 0) X.x X.b dX3_linesForAll_0 ki_0 ?_
  refine lv_istore_n (lv' := [(2, .int 0), (0, .ref (ad 0)), (1, .int x1)]) X.x X.b dX3_linesForAll_1 rfl hl (Nat.le_of_ble_eq_true rfl) rfl (fun ls hl => ?_)
  refine lv_iconst (v := 0) X.x X.b dX3_linesForAll_2 ki_0 ?_
  refine lv_istore_n (lv' := [(3, .int 0), (2, .int 0), (0, .ref (ad 0)), (1, .int x1)]) X.x X.b dX3_linesForAll_3 rfl hl (Nat.le_of_ble_eq_true rfl) rfl (fun ls hl => ?_)
  exact L4 zfuel size needs told rea x1 0 0 hf _ _ _ Z (lv_sub hl [2, 3, 1, 0] rfl)
set_option maxRecDepth 100000 in
set_option maxHeartbeats 4000000 in
theorem mX3_shareRead (l : Launch) (Δ : zE) (ad : Nat → Nat) (reached : Int32) (lost : Int32) (size : Int32) (plots : Nat → Int32) (cliffs : Nat → Int32) (words : Nat → Int32) (needs : Nat → Int32) (told : Nat → Int32) (rea : Nat → Int32) (wread : Nat → Int32) (ltold : Nat → Int32) (lout : Nat → Int32) (sets : Nat → Int32)  {res : UInt64} (hf : fX3_shareRead size rea = some res) : zMet l Δ yX3_shareRead cX3_shareRead 1 (some .double) 2 42 [.ref (ad 0)] (wX3 Δ ad reached lost size plots cliffs words needs told rea wread ltold lout sets) (wX3 Δ ad reached lost size plots cliffs words needs told rea wread ltold lout sets) (some (.double res)) := by
  refine z_start (by decide +kernel) (Nat.le_of_ble_eq_true rfl) ?_
  intro p e s m args below meth c A ls X Z hl
  have hl : lv_has ls 1 [(0, .ref (ad 0))] := hl
  rw [fX3_shareRead.eq_1] at hf
  refine lv_aload_n X.x X.b dX3_shareRead_0 rfl (lv_at hl 0 rfl) ?_
  refine z_gf inG_X3 (ci := 3) rfl 0 (Nat.le_of_ble_eq_true rfl) rfl X Z wd_105 0 rfl (v := .ref (ad 1)) rfl dX3_shareRead_1 ?_
  refine z_gf inG_X4 (ci := 4) rfl 0 (Nat.le_of_ble_eq_true rfl) rfl X Z wd_57 1 rfl (v := .int size) rfl dX3_shareRead_4 ?_
  refine lv_iconst (v := 1) X.x X.b dX3_shareRead_7 ki_1 ?_
  refine lv_icmp_ge (tgt := 13) X.x X.b dX3_shareRead_8 (by decide) (fun b1 => ?_) (fun b1 => ?_)
  · have hf := zif_t b1 hf
    refine lv_aload_n X.x X.b dX3_shareRead_13 rfl (lv_at hl 0 rfl) ?_
    refine z_gf inG_X3 (ci := 3) rfl 1 (Nat.le_of_ble_eq_true rfl) rfl X Z wd_107 0 rfl (v := .ref (ad 6)) rfl dX3_shareRead_14 ?_
    obtain ⟨q1, hq1, hf⟩ := zb_ok hf
    refine z_callV X Z hl (mX0_sumOfRead l Δ (fun j => ad (j + 6)) told rea wread ltold lout hq1) wd_702 wd_703 wd_704 wd_22 wd_705 ok_X0_sumOfRead 0 rfl 6 rfl (w' := (wX3 Δ ad reached lost size plots cliffs words needs told rea wread ltold lout sets)) su_4 fs_4 pu_4 rfl (rest := []) rfl (Nat.le_of_ble_eq_true rfl) ⟨Nat.le_of_ble_eq_true rfl, Nat.le_of_ble_eq_true rfl⟩ ⟨Nat.zero_le _, Nat.zero_le _⟩ (st1 := [.int q1]) rfl dX3_shareRead_17 (fun H locs Z => ?_)
    refine lv_i2d X.x X.b dX3_shareRead_20 ?_
    refine lv_bipush (v := 6) X.x X.b dX3_shareRead_21 kb_6 ?_
    refine lv_aload_n X.x X.b dX3_shareRead_23 rfl (lv_at hl 0 rfl) ?_
    refine z_gf inG_X3 (ci := 3) rfl 0 (Nat.le_of_ble_eq_true rfl) rfl X Z wd_105 0 rfl (v := .ref (ad 1)) rfl dX3_shareRead_24 ?_
    refine z_gf inG_X4 (ci := 4) rfl 0 (Nat.le_of_ble_eq_true rfl) rfl X Z wd_57 1 rfl (v := .int size) rfl dX3_shareRead_27 ?_
    refine lv_imul X.x X.b dX3_shareRead_30 ?_
    refine lv_i2d X.x X.b dX3_shareRead_31 ?_
    obtain ⟨b2, hf⟩ := zg_nn hf
    refine lv_ddiv X.x X.b dX3_shareRead_32 b2 ?_
    cases hf
    exact z_dret X Z dX3_shareRead_33
  · have hf := zif_f b1 hf
    refine lv_dconst1 X.x X.b dX3_shareRead_11 ?_
    cases hf
    exact z_dret X Z dX3_shareRead_12
set_option maxRecDepth 100000 in
set_option maxHeartbeats 4000000 in
theorem mX4_findNeeds (l : Launch) (Δ : zE) (ad : Nat → Nat) (size : Int32) (plots : Nat → Int32) (cliffs : Nat → Int32) (words : Nat → Int32) (needs : Nat → Int32) (x1 : Int32) {res : Int32} (hf : fX4_findNeeds plots x1 = some res) : zMet l Δ yX4_findNeeds cX4_findNeeds 5 (some .int) 0 0 [.ref (ad 0), .int x1] (wX4 Δ ad size plots cliffs words needs) (wX4 Δ ad size plots cliffs words needs) (some (.int res)) := by
  refine z_start (by decide +kernel) (Nat.le_of_ble_eq_true rfl) ?_
  intro p e s m args below meth c A ls X Z hl
  have hl : lv_has ls 5 [(0, .ref (ad 0)), (1, .int x1)] := hl
  have L14 : ∀ (k : Nat) (plots : Nat → Int32) (v2 : Int32) (v3 : Int32) (v4 : Int32), fX4_findNeeds_14 k plots v2 v3 v4 = some res → ∀ (H : Heap) (locs : List Loc) (ls : Array Slot), zW Δ A s.heap (wX4 Δ ad size plots cliffs words needs) H locs → lv_has ls 5 [(0, .ref (ad 0)), (2, .int v2), (3, .int v3), (4, .int v4)] → W p l e { frames := 0, cells := 0, slots := 0, locals := 0 } s m args below meth c H locs 0 0 (zEnd Δ below args s 0 0 A (some (.int res)) (wX4 Δ ad size plots cliffs words needs)) (F0 m 14 ls []) := by
    intro k
    induction k with
    | zero =>
      intro plots v2 v3 v4 hf
      rw [fX4_findNeeds_14.eq_1] at hf
      cases hf
    | succ k ih =>
      intro plots v2 v3 v4 hf H locs ls Z hl
      rw [fX4_findNeeds_14.eq_2] at hf
      refine lv_iload X.x X.b dX4_findNeeds_14 (lv_at hl 3 rfl) ?_
      refine lv_if_lt (tgt := 60) X.x X.b dX4_findNeeds_16 (by decide) (fun b1 => ?_) (fun b1 => ?_)
      · have hf := zif_t b1 hf
        refine lv_iload_n X.x X.b dX4_findNeeds_60 rfl (lv_at hl 1 rfl) ?_
        cases hf
        exact z_iret X Z dX4_findNeeds_61
      · have hf := zif_f b1 hf
        refine lv_iload_n X.x X.b dX4_findNeeds_19 rfl (lv_at hl 2 rfl) ?_
        refine lv_if_eq (tgt := 60) X.x X.b dX4_findNeeds_20 (by decide) (fun b2 => ?_) (fun b2 => ?_)
        · have hf := zif_t b2 hf
          refine lv_iload_n X.x X.b dX4_findNeeds_60 rfl (lv_at hl 1 rfl) ?_
          cases hf
          exact z_iret X Z dX4_findNeeds_61
        · have hf := zif_f b2 hf
          refine lv_aload_n X.x X.b dX4_findNeeds_23 rfl (lv_at hl 0 rfl) ?_
          refine z_gf inG_X4 (ci := 4) rfl 1 (Nat.le_of_ble_eq_true rfl) rfl X Z wd_58 0 rfl (v := .ref (ad 1)) rfl dX4_findNeeds_24 ?_
          refine lv_iload X.x X.b dX4_findNeeds_27 (lv_at hl 3 rfl) ?_
          obtain ⟨b3, hf⟩ := zg_in hf
          refine z_iald X Z 1 rfl b3 dX4_findNeeds_29 ?_
          refine lv_iload_n X.x X.b dX4_findNeeds_30 rfl (lv_at hl 2 rfl) ?_
          refine lv_iand X.x X.b dX4_findNeeds_31 ?_
          refine lv_if_eq (tgt := 54) X.x X.b dX4_findNeeds_32 (by decide) (fun b4 => ?_) (fun b4 => ?_)
          · have hf := zif_t b4 hf
            refine lv_iinc (v := (v4 + (-1))) (lv' := [(4, .int (v4 + (-1))), (0, .ref (ad 0)), (2, .int v2), (3, .int v3)]) X.x X.b dX4_findNeeds_54 hl (k := 3) rfl (congrArg _ ki_m1) (Nat.le_of_ble_eq_true rfl) rfl (fun ls hl => ?_)
            refine lv_goto (tgt := 14) X.x X.b dX4_findNeeds_57 (by decide) ?_
            exact ih plots v2 v3 (v4 + (-1)) hf _ _ _ Z (lv_sub hl [1, 2, 3, 0] rfl)
          · have hf := zif_f b4 hf
            refine lv_iload_n X.x X.b dX4_findNeeds_35 rfl (lv_at hl 1 rfl) ?_
            refine lv_iconst (v := 1) X.x X.b dX4_findNeeds_36 ki_1 ?_
            refine lv_iload X.x X.b dX4_findNeeds_37 (lv_at hl 3 rfl) ?_
            refine lv_ishl X.x X.b dX4_findNeeds_39 ?_
            refine lv_ior X.x X.b dX4_findNeeds_40 ?_
            refine lv_istore_n (lv' := [(2, .int (v2 ||| ((1 : Int32) <<< (v4 &&& 31)))), (0, .ref (ad 0)), (3, .int v3), (4, .int v4)]) X.x X.b dX4_findNeeds_41 rfl hl (Nat.le_of_ble_eq_true rfl) rfl (fun ls hl => ?_)
            refine lv_iload_n X.x X.b dX4_findNeeds_42 rfl (lv_at hl 2 rfl) ?_
            refine lv_aload_n X.x X.b dX4_findNeeds_43 rfl (lv_at hl 1 rfl) ?_
            refine z_gf inG_X4 (ci := 4) rfl 1 (Nat.le_of_ble_eq_true rfl) rfl X Z wd_58 0 rfl (v := .ref (ad 1)) rfl dX4_findNeeds_44 ?_
            refine lv_iload X.x X.b dX4_findNeeds_47 (lv_at hl 3 rfl) ?_
            obtain ⟨b5, hf⟩ := zg_in hf
            refine z_iald X Z 1 rfl b5 dX4_findNeeds_49 ?_
            refine lv_iconst (v := (-1)) X.x X.b dX4_findNeeds_50 ki_m1 ?_
            refine lv_ixor X.x X.b dX4_findNeeds_51 ?_
            refine lv_iand X.x X.b dX4_findNeeds_52 ?_
            refine lv_istore_n (lv' := [(3, .int (v3 &&& ((plots v4.toNatClampNeg) ^^^ (-1)))), (2, .int (v2 ||| ((1 : Int32) <<< (v4 &&& 31)))), (0, .ref (ad 0)), (4, .int v4)]) X.x X.b dX4_findNeeds_53 rfl hl (Nat.le_of_ble_eq_true rfl) rfl (fun ls hl => ?_)
            refine lv_iinc (v := (v4 + (-1))) (lv' := [(4, .int (v4 + (-1))), (3, .int (v3 &&& ((plots v4.toNatClampNeg) ^^^ (-1)))), (2, .int (v2 ||| ((1 : Int32) <<< (v4 &&& 31)))), (0, .ref (ad 0))]) X.x X.b dX4_findNeeds_54 hl (k := 3) rfl (congrArg _ ki_m1) (Nat.le_of_ble_eq_true rfl) rfl (fun ls hl => ?_)
            refine lv_goto (tgt := 14) X.x X.b dX4_findNeeds_57 (by decide) ?_
            exact ih plots (v2 ||| ((1 : Int32) <<< (v4 &&& 31))) (v3 &&& ((plots v4.toNatClampNeg) ^^^ (-1))) (v4 + (-1)) hf _ _ _ Z (lv_sub hl [3, 2, 1, 0] rfl)
  rw [fX4_findNeeds.eq_1] at hf
  refine lv_iconst (v := 0) X.x X.b dX4_findNeeds_0 ki_0 ?_
  refine lv_istore_n (lv' := [(2, .int 0), (0, .ref (ad 0)), (1, .int x1)]) X.x X.b dX4_findNeeds_1 rfl hl (Nat.le_of_ble_eq_true rfl) rfl (fun ls hl => ?_)
  refine lv_aload_n X.x X.b dX4_findNeeds_2 rfl (lv_at hl 1 rfl) ?_
  refine z_gf inG_X4 (ci := 4) rfl 1 (Nat.le_of_ble_eq_true rfl) rfl X Z wd_58 0 rfl (v := .ref (ad 1)) rfl dX4_findNeeds_3 ?_
  refine lv_iload_n X.x X.b dX4_findNeeds_6 rfl (lv_at hl 2 rfl) ?_
  obtain ⟨b1, hf⟩ := zg_in hf
  refine z_iald X Z 1 rfl b1 dX4_findNeeds_7 ?_
  refine lv_istore_n (lv' := [(3, .int (plots x1.toNatClampNeg)), (2, .int 0), (0, .ref (ad 0)), (1, .int x1)]) X.x X.b dX4_findNeeds_8 rfl hl (Nat.le_of_ble_eq_true rfl) rfl (fun ls hl => ?_)
  refine lv_iload_n X.x X.b dX4_findNeeds_9 rfl (lv_at hl 3 rfl) ?_
  refine lv_iconst (v := 1) X.x X.b dX4_findNeeds_10 ki_1 ?_
  refine lv_isub X.x X.b dX4_findNeeds_11 ?_
  refine lv_istore (lv' := [(4, .int (x1 - 1)), (3, .int (plots x1.toNatClampNeg)), (2, .int 0), (0, .ref (ad 0)), (1, .int x1)]) X.x X.b dX4_findNeeds_12 hl (Nat.le_of_ble_eq_true rfl) rfl (fun ls hl => ?_)
  exact L14 zfuel plots 0 (plots x1.toNatClampNeg) (x1 - 1) hf _ _ _ Z (lv_sub hl [3, 2, 1, 0] rfl)
set_option maxRecDepth 100000 in
set_option maxHeartbeats 4000000 in
theorem mX4_put (l : Launch) (Δ : zE) (ad : Nat → Nat) (size : Int32) (plots : Nat → Int32) (cliffs : Nat → Int32) (words : Nat → Int32) (needs : Nat → Int32) (x1 : Int32) (x2 : Int32) (x3 : Int32) {res : Int32 × (Nat → Int32) × (Nat → Int32) × (Nat → Int32) × (Nat → Int32)} (hf : fX4_put size plots cliffs words needs x1 x2 x3 = some res) : zMet l Δ yX4_put cX4_put 4 none 1 24 [.ref (ad 0), .int x1, .int x2, .int x3] (wX4 Δ ad size plots cliffs words needs) (wX4 Δ ad res.1 res.2.1 res.2.2.1 res.2.2.2.1 res.2.2.2.2) none := by
  refine z_start (by decide +kernel) (Nat.le_of_ble_eq_true rfl) ?_
  intro p e s m args below meth c A ls X Z hl
  have hl : lv_has ls 4 [(0, .ref (ad 0)), (1, .int x1), (2, .int x2), (3, .int x3)] := hl
  rw [fX4_put.eq_1] at hf
  refine lv_aload_n X.x X.b dX4_put_0 rfl (lv_at hl 0 rfl) ?_
  refine z_gf inG_X4 (ci := 4) rfl 1 (Nat.le_of_ble_eq_true rfl) rfl X Z wd_58 0 rfl (v := .ref (ad 1)) rfl dX4_put_1 ?_
  refine lv_aload_n X.x X.b dX4_put_4 rfl (lv_at hl 0 rfl) ?_
  refine z_gf inG_X4 (ci := 4) rfl 0 (Nat.le_of_ble_eq_true rfl) rfl X Z wd_55 0 rfl (v := .int size) rfl dX4_put_5 ?_
  refine lv_iload_n X.x X.b dX4_put_8 rfl (lv_at hl 1 rfl) ?_
  obtain ⟨b1, hf⟩ := zg_in hf
  refine z_iast (w' := (wX4 Δ ad size (upd plots size.toNatClampNeg x1) cliffs words needs)) X Z 1 rfl b1 rfl dX4_put_9 (fun H locs Z => ?_)
  refine lv_aload_n X.x X.b dX4_put_10 rfl (lv_at hl 0 rfl) ?_
  refine z_gf inG_X4 (ci := 4) rfl 2 (Nat.le_of_ble_eq_true rfl) rfl X Z wd_60 0 rfl (v := .ref (ad 2)) rfl dX4_put_11 ?_
  refine lv_aload_n X.x X.b dX4_put_14 rfl (lv_at hl 0 rfl) ?_
  refine z_gf inG_X4 (ci := 4) rfl 0 (Nat.le_of_ble_eq_true rfl) rfl X Z wd_55 0 rfl (v := .int size) rfl dX4_put_15 ?_
  refine lv_iload_n X.x X.b dX4_put_18 rfl (lv_at hl 2 rfl) ?_
  obtain ⟨b2, hf⟩ := zg_in hf
  refine z_iast (w' := (wX4 Δ ad size (upd plots size.toNatClampNeg x1) (upd cliffs size.toNatClampNeg x2) words needs)) X Z 2 rfl b2 rfl dX4_put_19 (fun H locs Z => ?_)
  refine lv_aload_n X.x X.b dX4_put_20 rfl (lv_at hl 0 rfl) ?_
  refine z_gf inG_X4 (ci := 4) rfl 3 (Nat.le_of_ble_eq_true rfl) rfl X Z wd_62 0 rfl (v := .ref (ad 3)) rfl dX4_put_21 ?_
  refine lv_aload_n X.x X.b dX4_put_24 rfl (lv_at hl 0 rfl) ?_
  refine z_gf inG_X4 (ci := 4) rfl 0 (Nat.le_of_ble_eq_true rfl) rfl X Z wd_55 0 rfl (v := .int size) rfl dX4_put_25 ?_
  refine lv_iload_n X.x X.b dX4_put_28 rfl (lv_at hl 3 rfl) ?_
  obtain ⟨b3, hf⟩ := zg_in hf
  refine z_iast (w' := (wX4 Δ ad size (upd plots size.toNatClampNeg x1) (upd cliffs size.toNatClampNeg x2) (upd words size.toNatClampNeg x3) needs)) X Z 3 rfl b3 rfl dX4_put_29 (fun H locs Z => ?_)
  refine lv_aload_n X.x X.b dX4_put_30 rfl (lv_at hl 0 rfl) ?_
  refine z_gf inG_X4 (ci := 4) rfl 4 (Nat.le_of_ble_eq_true rfl) rfl X Z wd_64 0 rfl (v := .ref (ad 4)) rfl dX4_put_31 ?_
  refine lv_aload_n X.x X.b dX4_put_34 rfl (lv_at hl 0 rfl) ?_
  refine z_gf inG_X4 (ci := 4) rfl 0 (Nat.le_of_ble_eq_true rfl) rfl X Z wd_55 0 rfl (v := .int size) rfl dX4_put_35 ?_
  refine lv_aload_n X.x X.b dX4_put_38 rfl (lv_at hl 0 rfl) ?_
  refine lv_aload_n X.x X.b dX4_put_39 rfl (lv_at hl 0 rfl) ?_
  refine z_gf inG_X4 (ci := 4) rfl 0 (Nat.le_of_ble_eq_true rfl) rfl X Z wd_55 0 rfl (v := .int size) rfl dX4_put_40 ?_
  obtain ⟨q1, hq1, hf⟩ := zb_ok hf
  refine z_callV X Z hl (mX4_findNeeds l Δ ad size (upd plots size.toNatClampNeg x1) (upd cliffs size.toNatClampNeg x2) (upd words size.toNatClampNeg x3) needs size hq1) wd_382 wd_384 wd_2 wd_21 wd_385 ok_X4_findNeeds 4 rfl 0 rfl (w' := (wX4 Δ ad size (upd plots size.toNatClampNeg x1) (upd cliffs size.toNatClampNeg x2) (upd words size.toNatClampNeg x3) needs)) su_7 fs_7 pu_7 rfl (rest := [.int size, .ref (ad 4)]) rfl (Nat.le_of_ble_eq_true rfl) ⟨Nat.le_of_ble_eq_true rfl, Nat.le_of_ble_eq_true rfl⟩ ⟨Nat.zero_le _, Nat.zero_le _⟩ (st1 := [.int q1, .int size, .ref (ad 4)]) rfl dX4_put_43 (fun H locs Z => ?_)
  obtain ⟨b4, hf⟩ := zg_in hf
  refine z_iast (w' := (wX4 Δ ad size (upd plots size.toNatClampNeg x1) (upd cliffs size.toNatClampNeg x2) (upd words size.toNatClampNeg x3) (upd needs size.toNatClampNeg q1))) X Z 4 rfl b4 rfl dX4_put_46 (fun H locs Z => ?_)
  refine lv_aload_n X.x X.b dX4_put_47 rfl (lv_at hl 0 rfl) ?_
  refine lv_dup X.x X.b dX4_put_48 rfl ?_
  refine z_gf inG_X4 (ci := 4) rfl 0 (Nat.le_of_ble_eq_true rfl) rfl X Z wd_55 0 rfl (v := .int size) rfl dX4_put_49 ?_
  refine lv_iconst (v := 1) X.x X.b dX4_put_52 ki_1 ?_
  refine lv_iadd X.x X.b dX4_put_53 ?_
  refine z_pf (w' := (wX4 Δ ad (size + 1) (upd plots size.toNatClampNeg x1) (upd cliffs size.toNatClampNeg x2) (upd words size.toNatClampNeg x3) (upd needs size.toNatClampNeg q1))) inG_X4 (ci := 4) rfl tyX4 tyX4_ok nmX4 0 (Nat.le_of_ble_eq_true rfl) rfl rfl X Z wd_55 0 rfl rfl rfl (Nat.le_of_ble_eq_true rfl) rfl dX4_put_54 (fun H locs Z => ?_)
  cases hf
  exact z_vret X Z dX4_put_57
set_option maxRecDepth 100000 in
set_option maxHeartbeats 4000000 in
theorem mX4_rewrite (l : Launch) (Δ : zE) (ad : Nat → Nat) (size : Int32) (plots : Nat → Int32) (cliffs : Nat → Int32) (words : Nat → Int32) (needs : Nat → Int32) (x1 : Int32) (x2 : Int32) (x3 : Int32) {res : Int32 × (Nat → Int32) × (Nat → Int32) × (Nat → Int32)} (hf : fX4_rewrite size plots cliffs needs x1 x2 x3 = some res) : zMet l Δ yX4_rewrite cX4_rewrite 6 (some .int) 1 24 [.ref (ad 0), .int x1, .int x2, .int x3] (wX4 Δ ad size plots cliffs words needs) (wX4 Δ ad size res.2.1 res.2.2.1 words res.2.2.2) (some (.int res.1)) := by
  refine z_start (by decide +kernel) (Nat.le_of_ble_eq_true rfl) ?_
  intro p e s m args below meth c A ls X Z hl
  have hl : lv_has ls 6 [(0, .ref (ad 0)), (1, .int x1), (2, .int x2), (3, .int x3)] := hl
  have L25 : ∀ (k : Nat) (size : Int32) (plots : Nat → Int32) (cliffs : Nat → Int32) (needs : Nat → Int32) (v4 : Int32) (v5 : Int32), fX4_rewrite_25 k size plots cliffs needs v4 v5 = some res → ∀ (H : Heap) (locs : List Loc) (ls : Array Slot), zW Δ A s.heap (wX4 Δ ad size plots cliffs words needs) H locs → lv_has ls 6 [(0, .ref (ad 0)), (4, .int v4), (5, .int v5)] → W p l e { frames := 1, cells := 0, slots := 0, locals := 24 } s m args below meth c H locs 0 0 (zEnd Δ below args s 0 0 A (some (.int res.1)) (wX4 Δ ad size res.2.1 res.2.2.1 words res.2.2.2)) (F0 m 25 ls []) := by
    intro k
    induction k with
    | zero =>
      intro size plots cliffs needs v4 v5 hf
      rw [fX4_rewrite_25.eq_1] at hf
      cases hf
    | succ k ih =>
      intro size plots cliffs needs v4 v5 hf H locs ls Z hl
      rw [fX4_rewrite_25.eq_2] at hf
      refine lv_iload X.x X.b dX4_rewrite_25 (lv_at hl 2 rfl) ?_
      refine lv_aload_n X.x X.b dX4_rewrite_27 rfl (lv_at hl 0 rfl) ?_
      refine z_gf inG_X4 (ci := 4) rfl 0 (Nat.le_of_ble_eq_true rfl) rfl X Z wd_55 0 rfl (v := .int size) rfl dX4_rewrite_28 ?_
      refine lv_icmp_ge (tgt := 53) X.x X.b dX4_rewrite_31 (by decide) (fun b1 => ?_) (fun b1 => ?_)
      · have hf := zif_t b1 hf
        refine lv_iload X.x X.b dX4_rewrite_53 (lv_at hl 1 rfl) ?_
        cases hf
        exact z_iret X Z dX4_rewrite_55
      · have hf := zif_f b1 hf
        refine lv_aload_n X.x X.b dX4_rewrite_34 rfl (lv_at hl 0 rfl) ?_
        refine z_gf inG_X4 (ci := 4) rfl 4 (Nat.le_of_ble_eq_true rfl) rfl X Z wd_64 0 rfl (v := .ref (ad 4)) rfl dX4_rewrite_35 ?_
        refine lv_iload X.x X.b dX4_rewrite_38 (lv_at hl 2 rfl) ?_
        refine lv_aload_n X.x X.b dX4_rewrite_40 rfl (lv_at hl 0 rfl) ?_
        refine lv_iload X.x X.b dX4_rewrite_41 (lv_at hl 2 rfl) ?_
        obtain ⟨q1, hq1, hf⟩ := zb_ok hf
        refine z_callV X Z hl (mX4_findNeeds l Δ ad size plots cliffs words needs v5 hq1) wd_382 wd_384 wd_2 wd_21 wd_385 ok_X4_findNeeds 4 rfl 0 rfl (w' := (wX4 Δ ad size plots cliffs words needs)) su_7 fs_7 pu_7 rfl (rest := [.int v5, .ref (ad 4)]) rfl (Nat.le_of_ble_eq_true rfl) ⟨Nat.le_of_ble_eq_true rfl, Nat.le_of_ble_eq_true rfl⟩ ⟨Nat.zero_le _, Nat.zero_le _⟩ (st1 := [.int q1, .int v5, .ref (ad 4)]) rfl dX4_rewrite_43 (fun H locs Z => ?_)
        obtain ⟨b2, hf⟩ := zg_in hf
        refine z_iast (w' := (wX4 Δ ad size plots cliffs words (upd needs v5.toNatClampNeg q1))) X Z 4 rfl b2 rfl dX4_rewrite_46 (fun H locs Z => ?_)
        refine lv_iinc (v := (v5 + 1)) (lv' := [(5, .int (v5 + 1)), (0, .ref (ad 0)), (4, .int v4)]) X.x X.b dX4_rewrite_47 hl (k := 2) rfl (congrArg _ ki_1) (Nat.le_of_ble_eq_true rfl) rfl (fun ls hl => ?_)
        refine lv_goto (tgt := 25) X.x X.b dX4_rewrite_50 (by decide) ?_
        exact ih size plots cliffs (upd needs v5.toNatClampNeg q1) v4 (v5 + 1) hf _ _ _ Z (lv_sub hl [1, 2, 0] rfl)
  rw [fX4_rewrite.eq_1] at hf
  refine lv_aload_n X.x X.b dX4_rewrite_0 rfl (lv_at hl 0 rfl) ?_
  refine z_gf inG_X4 (ci := 4) rfl 1 (Nat.le_of_ble_eq_true rfl) rfl X Z wd_58 0 rfl (v := .ref (ad 1)) rfl dX4_rewrite_1 ?_
  refine lv_iload_n X.x X.b dX4_rewrite_4 rfl (lv_at hl 1 rfl) ?_
  obtain ⟨b1, hf⟩ := zg_in hf
  refine z_iald X Z 1 rfl b1 dX4_rewrite_5 ?_
  refine lv_istore (lv' := [(4, .int (plots x1.toNatClampNeg)), (0, .ref (ad 0)), (1, .int x1), (2, .int x2), (3, .int x3)]) X.x X.b dX4_rewrite_6 hl (Nat.le_of_ble_eq_true rfl) rfl (fun ls hl => ?_)
  refine lv_aload_n X.x X.b dX4_rewrite_8 rfl (lv_at hl 1 rfl) ?_
  refine z_gf inG_X4 (ci := 4) rfl 1 (Nat.le_of_ble_eq_true rfl) rfl X Z wd_58 0 rfl (v := .ref (ad 1)) rfl dX4_rewrite_9 ?_
  refine lv_iload_n X.x X.b dX4_rewrite_12 rfl (lv_at hl 2 rfl) ?_
  refine lv_iload_n X.x X.b dX4_rewrite_13 rfl (lv_at hl 3 rfl) ?_
  obtain ⟨b2, hf⟩ := zg_in hf
  refine z_iast (w' := (wX4 Δ ad size (upd plots x1.toNatClampNeg x2) cliffs words needs)) X Z 1 rfl b2 rfl dX4_rewrite_14 (fun H locs Z => ?_)
  refine lv_aload_n X.x X.b dX4_rewrite_15 rfl (lv_at hl 1 rfl) ?_
  refine z_gf inG_X4 (ci := 4) rfl 2 (Nat.le_of_ble_eq_true rfl) rfl X Z wd_60 0 rfl (v := .ref (ad 2)) rfl dX4_rewrite_16 ?_
  refine lv_iload_n X.x X.b dX4_rewrite_19 rfl (lv_at hl 2 rfl) ?_
  refine lv_iload_n X.x X.b dX4_rewrite_20 rfl (lv_at hl 4 rfl) ?_
  obtain ⟨b3, hf⟩ := zg_in hf
  refine z_iast (w' := (wX4 Δ ad size (upd plots x1.toNatClampNeg x2) (upd cliffs x1.toNatClampNeg x3) words needs)) X Z 2 rfl b3 rfl dX4_rewrite_21 (fun H locs Z => ?_)
  refine lv_iload_n X.x X.b dX4_rewrite_22 rfl (lv_at hl 2 rfl) ?_
  refine lv_istore (lv' := [(5, .int x1), (4, .int (plots x1.toNatClampNeg)), (0, .ref (ad 0)), (1, .int x1), (2, .int x2), (3, .int x3)]) X.x X.b dX4_rewrite_23 hl (Nat.le_of_ble_eq_true rfl) rfl (fun ls hl => ?_)
  exact L25 zfuel size (upd plots x1.toNatClampNeg x2) (upd cliffs x1.toNatClampNeg x3) needs (plots x1.toNatClampNeg) x1 hf _ _ _ Z (lv_sub hl [2, 1, 0] rfl)
set_option maxRecDepth 100000 in
set_option maxHeartbeats 4000000 in
theorem mX5_put (l : Launch) (Δ : zE) (ad : Nat → Nat) (len : Int32) (codes : Nat → Int32) (gpl : Int32) (gps : Int32) (gcl : Int32) (gwo : Int32) (x1 : Int32) {res : Int32 × (Nat → Int32)} (hf : fX5_put len codes x1 = some res) : zMet l Δ yX5_put cX5_put 2 none 0 0 [.ref (ad 0), .int x1] (wX5 Δ ad len codes gpl gps gcl gwo) (wX5 Δ ad res.1 res.2 gpl gps gcl gwo) none := by
  refine z_start (by decide +kernel) (Nat.le_of_ble_eq_true rfl) ?_
  intro p e s m args below meth c A ls X Z hl
  have hl : lv_has ls 2 [(0, .ref (ad 0)), (1, .int x1)] := hl
  rw [fX5_put.eq_1] at hf
  refine lv_aload_n X.x X.b dX5_put_0 rfl (lv_at hl 0 rfl) ?_
  refine z_gf inG_X5 (ci := 5) rfl 0 (Nat.le_of_ble_eq_true rfl) rfl X Z wd_171 0 rfl (v := .ref (ad 1)) rfl dX5_put_1 ?_
  refine lv_aload_n X.x X.b dX5_put_4 rfl (lv_at hl 0 rfl) ?_
  refine z_gf inG_X5 (ci := 5) rfl 1 (Nat.le_of_ble_eq_true rfl) rfl X Z wd_173 0 rfl (v := .int len) rfl dX5_put_5 ?_
  refine lv_iload_n X.x X.b dX5_put_8 rfl (lv_at hl 1 rfl) ?_
  obtain ⟨b1, hf⟩ := zg_in hf
  refine z_iast (w' := (wX5 Δ ad len (upd codes len.toNatClampNeg x1) gpl gps gcl gwo)) X Z 1 rfl b1 rfl dX5_put_9 (fun H locs Z => ?_)
  refine lv_aload_n X.x X.b dX5_put_10 rfl (lv_at hl 0 rfl) ?_
  refine lv_dup X.x X.b dX5_put_11 rfl ?_
  refine z_gf inG_X5 (ci := 5) rfl 1 (Nat.le_of_ble_eq_true rfl) rfl X Z wd_173 0 rfl (v := .int len) rfl dX5_put_12 ?_
  refine lv_iconst (v := 1) X.x X.b dX5_put_15 ki_1 ?_
  refine lv_iadd X.x X.b dX5_put_16 ?_
  refine z_pf (w' := (wX5 Δ ad (len + 1) (upd codes len.toNatClampNeg x1) gpl gps gcl gwo)) inG_X5 (ci := 5) rfl tyX5 tyX5_ok nmX5 1 (Nat.le_of_ble_eq_true rfl) rfl rfl X Z wd_173 0 rfl rfl rfl (Nat.le_of_ble_eq_true rfl) rfl dX5_put_17 (fun H locs Z => ?_)
  cases hf
  exact z_vret X Z dX5_put_20
set_option maxRecDepth 100000 in
set_option maxHeartbeats 4000000 in
theorem mX5_readUntilError (l : Launch) (Δ : zE) (ad : Nat → Nat) (len : Int32) (codes : Nat → Int32) (gpl : Int32) (gps : Int32) (gcl : Int32) (gwo : Int32)  {res : Int32 × Int32 × Int32 × Int32 × Int32} (hf : fX5_readUntilError len codes gpl gps gcl gwo = some res) : zMet l Δ yX5_readUntilError cX5_readUntilError 2 (some .int) 3 64 [.ref (ad 0)] (wX5 Δ ad len codes gpl gps gcl gwo) (wX5 Δ ad len codes res.2.1 res.2.2.1 res.2.2.2.1 res.2.2.2.2) (some (.int res.1)) := by
  refine z_start (by decide +kernel) (Nat.le_of_ble_eq_true rfl) ?_
  intro p e s m args below meth c A ls X Z hl
  have hl : lv_has ls 2 [(0, .ref (ad 0))] := hl
  have L9 : ∀ (k : Nat) (len : Int32) (codes : Nat → Int32) (gpl : Int32) (gps : Int32) (gcl : Int32) (gwo : Int32) (v1 : Int32), fX5_readUntilError_9 k len codes gpl gps gcl gwo v1 = some res → ∀ (H : Heap) (locs : List Loc) (ls : Array Slot), zW Δ A s.heap (wX5 Δ ad len codes gpl gps gcl gwo) H locs → lv_has ls 2 [(0, .ref (ad 0)), (1, .int v1)] → W p l e { frames := 3, cells := 0, slots := 0, locals := 64 } s m args below meth c H locs 0 0 (zEnd Δ below args s 0 0 A (some (.int res.1)) (wX5 Δ ad len codes res.2.1 res.2.2.1 res.2.2.2.1 res.2.2.2.2)) (F0 m 9 ls []) := by
    intro k
    induction k with
    | zero =>
      intro len codes gpl gps gcl gwo v1 hf
      rw [fX5_readUntilError_9.eq_1] at hf
      cases hf
    | succ k ih =>
      intro len codes gpl gps gcl gwo v1 hf H locs ls Z hl
      rw [fX5_readUntilError_9.eq_2] at hf
      refine lv_iload_n X.x X.b dX5_readUntilError_9 rfl (lv_at hl 1 rfl) ?_
      refine lv_aload_n X.x X.b dX5_readUntilError_10 rfl (lv_at hl 0 rfl) ?_
      refine z_gf inG_X5 (ci := 5) rfl 1 (Nat.le_of_ble_eq_true rfl) rfl X Z wd_173 0 rfl (v := .int len) rfl dX5_readUntilError_11 ?_
      refine lv_icmp_ge (tgt := 41) X.x X.b dX5_readUntilError_14 (by decide) (fun b1 => ?_) (fun b1 => ?_)
      · have hf := zif_t b1 hf
        refine lv_aload_n X.x X.b dX5_readUntilError_41 rfl (lv_at hl 0 rfl) ?_
        refine z_gf inG_X5 (ci := 5) rfl 1 (Nat.le_of_ble_eq_true rfl) rfl X Z wd_173 0 rfl (v := .int len) rfl dX5_readUntilError_42 ?_
        cases hf
        exact z_iret X Z dX5_readUntilError_45
      · have hf := zif_f b1 hf
        refine lv_aload_n X.x X.b dX5_readUntilError_17 rfl (lv_at hl 0 rfl) ?_
        refine z_gf inG_X5 (ci := 5) rfl 2 (Nat.le_of_ble_eq_true rfl) rfl X Z wd_175 0 rfl (v := .ref (ad 2)) rfl dX5_readUntilError_18 ?_
        refine lv_aload_n X.x X.b dX5_readUntilError_21 rfl (lv_at hl 0 rfl) ?_
        refine z_gf inG_X5 (ci := 5) rfl 0 (Nat.le_of_ble_eq_true rfl) rfl X Z wd_171 0 rfl (v := .ref (ad 1)) rfl dX5_readUntilError_22 ?_
        refine lv_iload_n X.x X.b dX5_readUntilError_25 rfl (lv_at hl 1 rfl) ?_
        obtain ⟨b2, hf⟩ := zg_in hf
        refine z_iald X Z 1 rfl b2 dX5_readUntilError_26 ?_
        obtain ⟨q1, hq1, hf⟩ := zb_ok hf
        refine z_callV X Z hl (mX1_takes l Δ (fun j => ad (j + 2)) gpl gps gcl gwo (codes v1.toNatClampNeg) hq1) wd_543 wd_544 wd_545 wd_25 wd_546 ok_X1_takes 1 rfl 2 rfl (w' := (wX5 Δ ad len codes q1.2.1 q1.2.2.1 q1.2.2.2.1 q1.2.2.2.2)) su_8 fs_8 pu_8 rfl (rest := []) rfl (Nat.le_of_ble_eq_true rfl) ⟨Nat.le_of_ble_eq_true rfl, Nat.le_of_ble_eq_true rfl⟩ ⟨Nat.zero_le _, Nat.zero_le _⟩ (st1 := [.int q1.1]) rfl dX5_readUntilError_27 (fun H locs Z => ?_)
        refine lv_if_ne (tgt := 35) X.x X.b dX5_readUntilError_30 (by decide) (fun b3 => ?_) (fun b3 => ?_)
        · have hf := zif_f b3 hf
          refine lv_iinc (v := (v1 + 1)) (lv' := [(1, .int (v1 + 1)), (0, .ref (ad 0))]) X.x X.b dX5_readUntilError_35 hl (k := 1) rfl (congrArg _ ki_1) (Nat.le_of_ble_eq_true rfl) rfl (fun ls hl => ?_)
          refine lv_goto (tgt := 9) X.x X.b dX5_readUntilError_38 (by decide) ?_
          exact ih len codes q1.2.1 q1.2.2.1 q1.2.2.2.1 q1.2.2.2.2 (v1 + 1) hf _ _ _ Z (lv_sub hl [1, 0] rfl)
        · have hf := zif_t b3 hf
          refine lv_iload_n X.x X.b dX5_readUntilError_33 rfl (lv_at hl 1 rfl) ?_
          cases hf
          exact z_iret X Z dX5_readUntilError_34
  rw [fX5_readUntilError.eq_1] at hf
  refine lv_aload_n X.x X.b dX5_readUntilError_0 rfl (lv_at hl 0 rfl) ?_
  refine z_gf inG_X5 (ci := 5) rfl 2 (Nat.le_of_ble_eq_true rfl) rfl X Z wd_175 0 rfl (v := .ref (ad 2)) rfl dX5_readUntilError_1 ?_
  obtain ⟨q1, hq1, hf⟩ := zb_ok hf
  refine z_callV X Z hl (mX1_restart l Δ (fun j => ad (j + 2)) gpl gps gcl gwo hq1) wd_539 wd_540 wd_541 wd_25 wd_542 ok_X1_restart 1 rfl 2 rfl (w' := (wX5 Δ ad len codes q1.1 q1.2.1 q1.2.2.1 q1.2.2.2)) su_8 fs_8 pu_8 rfl (rest := []) rfl (Nat.le_of_ble_eq_true rfl) ⟨Nat.le_of_ble_eq_true rfl, Nat.le_of_ble_eq_true rfl⟩ ⟨Nat.zero_le _, Nat.zero_le _⟩ (st1 := []) rfl dX5_readUntilError_4 (fun H locs Z => ?_)
  refine lv_iconst (v := 0) X.x X.b dX5_readUntilError_7 ki_0 ?_
  refine lv_istore_n (lv' := [(1, .int 0), (0, .ref (ad 0))]) X.x X.b dX5_readUntilError_8 rfl hl (Nat.le_of_ble_eq_true rfl) rfl (fun ls hl => ?_)
  exact L9 zfuel len codes q1.1 q1.2.1 q1.2.2.1 q1.2.2.2 0 hf _ _ _ Z (lv_sub hl [1, 0] rfl)
set_option maxRecDepth 100000 in
set_option maxHeartbeats 4000000 in
theorem mX5_isComplete (l : Launch) (Δ : zE) (ad : Nat → Nat) (len : Int32) (codes : Nat → Int32) (gpl : Int32) (gps : Int32) (gcl : Int32) (gwo : Int32)  {res : Int32 × Int32 × Int32 × Int32 × Int32} (hf : fX5_isComplete len codes gpl gps gcl gwo = some res) : zMet l Δ yX5_isComplete cX5_isComplete 1 (some .boolean) 4 85 [.ref (ad 0)] (wX5 Δ ad len codes gpl gps gcl gwo) (wX5 Δ ad len codes res.2.1 res.2.2.1 res.2.2.2.1 res.2.2.2.2) (some (.int res.1)) := by
  refine z_start (by decide +kernel) (Nat.le_of_ble_eq_true rfl) ?_
  intro p e s m args below meth c A ls X Z hl
  have hl : lv_has ls 1 [(0, .ref (ad 0))] := hl
  rw [fX5_isComplete.eq_1] at hf
  refine lv_aload_n X.x X.b dX5_isComplete_0 rfl (lv_at hl 0 rfl) ?_
  obtain ⟨q1, hq1, hf⟩ := zb_ok hf
  refine z_callV X Z hl (mX5_readUntilError l Δ ad len codes gpl gps gcl gwo hq1) wd_535 wd_536 wd_537 wd_24 wd_538 ok_X5_readUntilError 5 rfl 0 rfl (w' := (wX5 Δ ad len codes q1.2.1 q1.2.2.1 q1.2.2.2.1 q1.2.2.2.2)) su_9 fs_9 pu_9 rfl (rest := []) rfl (Nat.le_of_ble_eq_true rfl) ⟨Nat.le_of_ble_eq_true rfl, Nat.le_of_ble_eq_true rfl⟩ ⟨Nat.zero_le _, Nat.zero_le _⟩ (st1 := [.int q1.1]) rfl dX5_isComplete_1 (fun H locs Z => ?_)
  refine lv_aload_n X.x X.b dX5_isComplete_4 rfl (lv_at hl 0 rfl) ?_
  refine z_gf inG_X5 (ci := 5) rfl 1 (Nat.le_of_ble_eq_true rfl) rfl X Z wd_173 0 rfl (v := .int len) rfl dX5_isComplete_5 ?_
  refine lv_icmp_ne (tgt := 25) X.x X.b dX5_isComplete_8 (by decide) (fun b1 => ?_) (fun b1 => ?_)
  · have hf := zif_f b1 hf
    refine lv_iconst (v := 0) X.x X.b dX5_isComplete_25 ki_0 ?_
    cases hf
    exact z_zret X Z (Or.inl rfl) dX5_isComplete_26
  · have hf := zif_t b1 hf
    refine lv_aload_n X.x X.b dX5_isComplete_11 rfl (lv_at hl 0 rfl) ?_
    refine z_gf inG_X5 (ci := 5) rfl 2 (Nat.le_of_ble_eq_true rfl) rfl X Z wd_175 0 rfl (v := .ref (ad 2)) rfl dX5_isComplete_12 ?_
    obtain ⟨q2, hq2, hf⟩ := zb_ok hf
    refine z_callV X Z hl (mX1_mayEnd l Δ (fun j => ad (j + 2)) q1.2.1 q1.2.2.1 q1.2.2.2.1 q1.2.2.2.2 hq2) wd_569 wd_570 wd_571 wd_25 wd_572 ok_X1_mayEnd 1 rfl 2 rfl (w' := (wX5 Δ ad len codes q1.2.1 q1.2.2.1 q1.2.2.2.1 q1.2.2.2.2)) su_8 fs_8 pu_8 rfl (rest := []) rfl (Nat.le_of_ble_eq_true rfl) ⟨Nat.le_of_ble_eq_true rfl, Nat.le_of_ble_eq_true rfl⟩ ⟨Nat.zero_le _, Nat.zero_le _⟩ (st1 := [.int q2]) rfl dX5_isComplete_15 (fun H locs Z => ?_)
    refine lv_if_eq (tgt := 25) X.x X.b dX5_isComplete_18 (by decide) (fun b2 => ?_) (fun b2 => ?_)
    · have hf := zif_t b2 hf
      refine lv_iconst (v := 0) X.x X.b dX5_isComplete_25 ki_0 ?_
      cases hf
      exact z_zret X Z (Or.inl rfl) dX5_isComplete_26
    · have hf := zif_f b2 hf
      refine lv_iconst (v := 1) X.x X.b dX5_isComplete_21 ki_1 ?_
      refine lv_goto (tgt := 26) X.x X.b dX5_isComplete_22 (by decide) ?_
      cases hf
      exact z_zret X Z (Or.inr rfl) dX5_isComplete_26
