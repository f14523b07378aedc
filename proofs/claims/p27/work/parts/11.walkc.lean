set_option maxRecDepth 100000 in
set_option maxHeartbeats 4000000 in
theorem mX4_allNeeds (l : Launch) (Δ : zE) (ad : Nat → Nat) (size : Int32) (plots : Nat → Int32) (cliffs : Nat → Int32) (words : Nat → Int32) (needs : Nat → Int32) (x1 : Int32) (x2 : Int32) {res : Int32} (hf : fX4_allNeeds needs x1 x2 = some res) : zMet l Δ yX4_allNeeds cX4_allNeeds 5 (some .int) 1 21 [.ref (ad 0), .int x1, .int x2] (wX4 Δ ad size plots cliffs words needs) (wX4 Δ ad size plots cliffs words needs) (some (.int res)) := by
  refine z_start (by decide +kernel) (Nat.le_of_ble_eq_true rfl) ?_
  intro p e s m args below meth c A ls X Z hl
  have hl : lv_has ls 5 [(0, .ref (ad 0)), (1, .int x1), (2, .int x2)] := hl
  have L14 : ∀ (k : Nat) (needs : Nat → Int32) (v2 : Int32) (v3 : Int32) (v4 : Int32), fX4_allNeeds_14 k needs v2 v3 v4 = some res → ∀ (H : Heap) (locs : List Loc) (ls : Array Slot), zW Δ A s.heap (wX4 Δ ad size plots cliffs words needs) H locs → lv_has ls 5 [(0, .ref (ad 0)), (2, .int v2), (3, .int v3), (4, .int v4)] → W p l e { frames := 1, cells := 0, slots := 0, locals := 21 } s m args below meth c H locs 0 0 (zEnd Δ below args s 0 0 A (some (.int res)) (wX4 Δ ad size plots cliffs words needs)) (F0 m 14 ls []) := by
    intro k
    induction k with
    | zero =>
      intro needs v2 v3 v4 hf
      rw [fX4_allNeeds_14.eq_1] at hf
      cases hf
    | succ k ih =>
      intro needs v2 v3 v4 hf H locs ls Z hl
      rw [fX4_allNeeds_14.eq_2] at hf
      refine lv_iload X.x X.b dX4_allNeeds_14 (lv_at hl 3 rfl) ?_
      refine lv_if_lt (tgt := 46) X.x X.b dX4_allNeeds_16 (by decide) (fun b1 => ?_) (fun b1 => ?_)
      · have hf := zif_t b1 hf
        refine lv_iload_n X.x X.b dX4_allNeeds_46 rfl (lv_at hl 2 rfl) ?_
        cases hf
        exact z_iret X Z dX4_allNeeds_47
      · have hf := zif_f b1 hf
        refine lv_iload_n X.x X.b dX4_allNeeds_19 rfl (lv_at hl 2 rfl) ?_
        refine lv_iload X.x X.b dX4_allNeeds_20 (lv_at hl 3 rfl) ?_
        obtain ⟨q1, hq1, hf⟩ := zb_ok hf
        refine z_callSN (host := "SerialRecaps") X Z hl (mX6_isIn l Δ  v3 v4 hq1) (by decide +kernel) wd_367 wd_19 wd_368 ok_X6_isIn (w' := (wX4 Δ ad size plots cliffs words needs)) zSub_nil rfl zput_nil rfl (rest := []) rfl (Nat.le_of_ble_eq_true rfl) ⟨Nat.le_of_ble_eq_true rfl, Nat.le_of_ble_eq_true rfl⟩ ⟨Nat.zero_le _, Nat.zero_le _⟩ (st1 := [.int q1]) rfl dX4_allNeeds_22 (fun H locs Z => ?_)
        refine lv_if_eq (tgt := 40) X.x X.b dX4_allNeeds_25 (by decide) (fun b2 => ?_) (fun b2 => ?_)
        · have hf := zif_t b2 hf
          refine lv_iinc (v := (v4 + (-1))) (lv' := [(4, .int (v4 + (-1))), (0, .ref (ad 0)), (2, .int v2), (3, .int v3)]) X.x X.b dX4_allNeeds_40 hl (k := 3) rfl (congrArg _ ki_m1) (Nat.le_of_ble_eq_true rfl) rfl (fun ls hl => ?_)
          refine lv_goto (tgt := 14) X.x X.b dX4_allNeeds_43 (by decide) ?_
          exact ih needs v2 v3 (v4 + (-1)) hf _ _ _ Z (lv_sub hl [1, 2, 3, 0] rfl)
        · have hf := zif_f b2 hf
          refine lv_iload_n X.x X.b dX4_allNeeds_28 rfl (lv_at hl 2 rfl) ?_
          refine lv_aload_n X.x X.b dX4_allNeeds_29 rfl (lv_at hl 0 rfl) ?_
          refine z_gf inG_X4 (ci := 4) rfl 4 (Nat.le_of_ble_eq_true rfl) rfl X Z wd_64 0 rfl (v := .ref (ad 4)) rfl dX4_allNeeds_30 ?_
          refine lv_iload X.x X.b dX4_allNeeds_33 (lv_at hl 3 rfl) ?_
          obtain ⟨b3, hf⟩ := zg_in hf
          refine z_iald X Z 4 rfl b3 dX4_allNeeds_35 ?_
          refine lv_iload_n X.x X.b dX4_allNeeds_36 rfl (lv_at hl 1 rfl) ?_
          refine lv_iand X.x X.b dX4_allNeeds_37 ?_
          refine lv_ior X.x X.b dX4_allNeeds_38 ?_
          refine lv_istore_n (lv' := [(3, .int (v3 ||| ((needs v4.toNatClampNeg) &&& v2))), (0, .ref (ad 0)), (2, .int v2), (4, .int v4)]) X.x X.b dX4_allNeeds_39 rfl hl (Nat.le_of_ble_eq_true rfl) rfl (fun ls hl => ?_)
          refine lv_iinc (v := (v4 + (-1))) (lv' := [(4, .int (v4 + (-1))), (3, .int (v3 ||| ((needs v4.toNatClampNeg) &&& v2))), (0, .ref (ad 0)), (2, .int v2)]) X.x X.b dX4_allNeeds_40 hl (k := 3) rfl (congrArg _ ki_m1) (Nat.le_of_ble_eq_true rfl) rfl (fun ls hl => ?_)
          refine lv_goto (tgt := 14) X.x X.b dX4_allNeeds_43 (by decide) ?_
          exact ih needs v2 (v3 ||| ((needs v4.toNatClampNeg) &&& v2)) (v4 + (-1)) hf _ _ _ Z (lv_sub hl [2, 3, 1, 0] rfl)
  rw [fX4_allNeeds.eq_1] at hf
  refine lv_aload_n X.x X.b dX4_allNeeds_0 rfl (lv_at hl 0 rfl) ?_
  refine z_gf inG_X4 (ci := 4) rfl 4 (Nat.le_of_ble_eq_true rfl) rfl X Z wd_64 0 rfl (v := .ref (ad 4)) rfl dX4_allNeeds_1 ?_
  refine lv_iload_n X.x X.b dX4_allNeeds_4 rfl (lv_at hl 1 rfl) ?_
  obtain ⟨b1, hf⟩ := zg_in hf
  refine z_iald X Z 4 rfl b1 dX4_allNeeds_5 ?_
  refine lv_iload_n X.x X.b dX4_allNeeds_6 rfl (lv_at hl 2 rfl) ?_
  refine lv_iand X.x X.b dX4_allNeeds_7 ?_
  refine lv_istore_n (lv' := [(3, .int ((needs x1.toNatClampNeg) &&& x2)), (0, .ref (ad 0)), (1, .int x1), (2, .int x2)]) X.x X.b dX4_allNeeds_8 rfl hl (Nat.le_of_ble_eq_true rfl) rfl (fun ls hl => ?_)
  refine lv_iload_n X.x X.b dX4_allNeeds_9 rfl (lv_at hl 2 rfl) ?_
  refine lv_iconst (v := 1) X.x X.b dX4_allNeeds_10 ki_1 ?_
  refine lv_isub X.x X.b dX4_allNeeds_11 ?_
  refine lv_istore (lv' := [(4, .int (x1 - 1)), (3, .int ((needs x1.toNatClampNeg) &&& x2)), (0, .ref (ad 0)), (1, .int x1), (2, .int x2)]) X.x X.b dX4_allNeeds_12 hl (Nat.le_of_ble_eq_true rfl) rfl (fun ls hl => ?_)
  exact L14 zfuel needs x2 ((needs x1.toNatClampNeg) &&& x2) (x1 - 1) hf _ _ _ Z (lv_sub hl [2, 4, 1, 0] rfl)
set_option maxRecDepth 100000 in
set_option maxHeartbeats 4000000 in
theorem mX3_missedParts (l : Launch) (Δ : zE) (ad : Nat → Nat) (reached : Int32) (lost : Int32) (size : Int32) (plots : Nat → Int32) (cliffs : Nat → Int32) (words : Nat → Int32) (needs : Nat → Int32) (told : Nat → Int32) (rea : Nat → Int32) (wread : Nat → Int32) (ltold : Nat → Int32) (lout : Nat → Int32) (sets : Nat → Int32) (x1 : Int32) (x2 : Int32) {res : Int32} (hf : fX3_missedParts needs told rea x1 x2 = some res) : zMet l Δ yX3_missedParts cX3_missedParts 3 (some .int) 2 45 [.ref (ad 0), .int x1, .int x2] (wX3 Δ ad reached lost size plots cliffs words needs told rea wread ltold lout sets) (wX3 Δ ad reached lost size plots cliffs words needs told rea wread ltold lout sets) (some (.int res)) := by
  refine z_start (by decide +kernel) (Nat.le_of_ble_eq_true rfl) ?_
  intro p e s m args below meth c A ls X Z hl
  have hl : lv_has ls 3 [(0, .ref (ad 0)), (1, .int x1), (2, .int x2)] := hl
  rw [fX3_missedParts.eq_1] at hf
  refine lv_aload_n X.x X.b dX3_missedParts_0 rfl (lv_at hl 0 rfl) ?_
  refine z_gf inG_X3 (ci := 3) rfl 0 (Nat.le_of_ble_eq_true rfl) rfl X Z wd_105 0 rfl (v := .ref (ad 1)) rfl dX3_missedParts_1 ?_
  refine lv_iload_n X.x X.b dX3_missedParts_4 rfl (lv_at hl 2 rfl) ?_
  refine lv_aload_n X.x X.b dX3_missedParts_5 rfl (lv_at hl 0 rfl) ?_
  refine z_gf inG_X3 (ci := 3) rfl 1 (Nat.le_of_ble_eq_true rfl) rfl X Z wd_107 0 rfl (v := .ref (ad 6)) rfl dX3_missedParts_6 ?_
  refine lv_iload_n X.x X.b dX3_missedParts_9 rfl (lv_at hl 1 rfl) ?_
  obtain ⟨q1, hq1, hf⟩ := zb_ok hf
  refine z_callV X Z hl (mX0_known l Δ (fun j => ad (j + 6)) told rea wread ltold lout x1 hq1) wd_465 wd_338 wd_339 wd_22 wd_340 ok_X0_known 0 rfl 6 rfl (w' := (wX3 Δ ad reached lost size plots cliffs words needs told rea wread ltold lout sets)) su_4 fs_4 pu_4 rfl (rest := [.int x2, .ref (ad 1)]) rfl (Nat.le_of_ble_eq_true rfl) ⟨Nat.le_of_ble_eq_true rfl, Nat.le_of_ble_eq_true rfl⟩ ⟨Nat.zero_le _, Nat.zero_le _⟩ (st1 := [.int q1, .int x2, .ref (ad 1)]) rfl dX3_missedParts_10 (fun H locs Z => ?_)
  refine lv_iconst (v := (-1)) X.x X.b dX3_missedParts_13 ki_m1 ?_
  refine lv_ixor X.x X.b dX3_missedParts_14 ?_
  obtain ⟨q2, hq2, hf⟩ := zb_ok hf
  refine z_callV X Z hl (mX4_allNeeds l Δ (fun j => ad (j + 1)) size plots cliffs words needs x2 (q1 ^^^ (-1)) hq2) wd_466 wd_467 wd_468 wd_21 wd_469 ok_X4_allNeeds 4 rfl 1 rfl (w' := (wX3 Δ ad reached lost size plots cliffs words needs told rea wread ltold lout sets)) su_5 fs_5 pu_5 rfl (rest := []) rfl (Nat.le_of_ble_eq_true rfl) ⟨Nat.le_of_ble_eq_true rfl, Nat.le_of_ble_eq_true rfl⟩ ⟨Nat.zero_le _, Nat.zero_le _⟩ (st1 := [.int q2]) rfl dX3_missedParts_15 (fun H locs Z => ?_)
  cases hf
  exact z_iret X Z dX3_missedParts_18
set_option maxRecDepth 100000 in
set_option maxHeartbeats 4000000 in
theorem mX3_toldParts (l : Launch) (Δ : zE) (ad : Nat → Nat) (reached : Int32) (lost : Int32) (size : Int32) (plots : Nat → Int32) (cliffs : Nat → Int32) (words : Nat → Int32) (needs : Nat → Int32) (told : Nat → Int32) (rea : Nat → Int32) (wread : Nat → Int32) (ltold : Nat → Int32) (lout : Nat → Int32) (sets : Nat → Int32) (x1 : Int32) {res : Int32} (hf : fX3_toldParts sets x1 = some res) : zMet l Δ yX3_toldParts cX3_toldParts 5 (some .int) 1 20 [.ref (ad 0), .int x1] (wX3 Δ ad reached lost size plots cliffs words needs told rea wread ltold lout sets) (wX3 Δ ad reached lost size plots cliffs words needs told rea wread ltold lout sets) (some (.int res)) := by
  refine z_start (by decide +kernel) (Nat.le_of_ble_eq_true rfl) ?_
  intro p e s m args below meth c A ls X Z hl
  have hl : lv_has ls 5 [(0, .ref (ad 0)), (1, .int x1)] := hl
  have L17 : ∀ (k : Nat) (sets : Nat → Int32) (v2 : Int32) (v3 : Int32) (v4 : Int32), fX3_toldParts_17 k sets v2 v3 v4 = some res → ∀ (H : Heap) (locs : List Loc) (ls : Array Slot), zW Δ A s.heap (wX3 Δ ad reached lost size plots cliffs words needs told rea wread ltold lout sets) H locs → lv_has ls 5 [(2, .int v2), (3, .int v3), (4, .int v4)] → W p l e { frames := 1, cells := 0, slots := 0, locals := 20 } s m args below meth c H locs 0 0 (zEnd Δ below args s 0 0 A (some (.int res)) (wX3 Δ ad reached lost size plots cliffs words needs told rea wread ltold lout sets)) (F0 m 17 ls []) := by
    intro k
    induction k with
    | zero =>
      intro sets v2 v3 v4 hf
      rw [fX3_toldParts_17.eq_1] at hf
      cases hf
    | succ k ih =>
      intro sets v2 v3 v4 hf H locs ls Z hl
      rw [fX3_toldParts_17.eq_2] at hf
      refine lv_iload X.x X.b dX3_toldParts_17 (lv_at hl 2 rfl) ?_
      refine lv_iload_n X.x X.b dX3_toldParts_19 rfl (lv_at hl 1 rfl) ?_
      refine lv_icmp_ge (tgt := 35) X.x X.b dX3_toldParts_20 (by decide) (fun b1 => ?_) (fun b1 => ?_)
      · have hf := zif_t b1 hf
        refine lv_iload_n X.x X.b dX3_toldParts_35 rfl (lv_at hl 0 rfl) ?_
        cases hf
        exact z_iret X Z dX3_toldParts_36
      · have hf := zif_f b1 hf
        refine lv_iload_n X.x X.b dX3_toldParts_23 rfl (lv_at hl 0 rfl) ?_
        refine lv_iload_n X.x X.b dX3_toldParts_24 rfl (lv_at hl 0 rfl) ?_
        refine lv_iconst (v := 1) X.x X.b dX3_toldParts_25 ki_1 ?_
        refine lv_isub X.x X.b dX3_toldParts_26 ?_
        refine lv_iand X.x X.b dX3_toldParts_27 ?_
        refine lv_istore_n (lv' := [(2, .int (v2 &&& (v2 - 1))), (3, .int v3), (4, .int v4)]) X.x X.b dX3_toldParts_28 rfl hl (Nat.le_of_ble_eq_true rfl) rfl (fun ls hl => ?_)
        refine lv_iinc (v := (v4 + 1)) (lv' := [(4, .int (v4 + 1)), (2, .int (v2 &&& (v2 - 1))), (3, .int v3)]) X.x X.b dX3_toldParts_29 hl (k := 2) rfl (congrArg _ ki_1) (Nat.le_of_ble_eq_true rfl) rfl (fun ls hl => ?_)
        refine lv_goto (tgt := 17) X.x X.b dX3_toldParts_32 (by decide) ?_
        exact ih sets (v2 &&& (v2 - 1)) v3 (v4 + 1) hf _ _ _ Z (lv_sub hl [1, 2, 0] rfl)
  rw [fX3_toldParts.eq_1] at hf
  refine lv_iload_n X.x X.b dX3_toldParts_0 rfl (lv_at hl 1 rfl) ?_
  refine lv_istore_n (lv' := [(2, .int x1), (0, .ref (ad 0)), (1, .int x1)]) X.x X.b dX3_toldParts_1 rfl hl (Nat.le_of_ble_eq_true rfl) rfl (fun ls hl => ?_)
  refine lv_iload_n X.x X.b dX3_toldParts_2 rfl (lv_at hl 2 rfl) ?_
  obtain ⟨q1, hq1, hf⟩ := zb_ok hf
  refine z_callS X Z hl (mJ6_bitCount_0f7a4 l Δ  x1 hq1) wd_475 wd_429 wd_33 wd_430 ok_J6_bitCount_0f7a4 (w' := (wX3 Δ ad reached lost size plots cliffs words needs told rea wread ltold lout sets)) zSub_nil rfl zput_nil rfl (rest := []) rfl (Nat.le_of_ble_eq_true rfl) ⟨Nat.le_of_ble_eq_true rfl, Nat.le_of_ble_eq_true rfl⟩ ⟨Nat.zero_le _, Nat.zero_le _⟩ (st1 := [.int q1]) rfl dX3_toldParts_3 (fun H locs Z => ?_)
  refine lv_aload_n X.x X.b dX3_toldParts_6 rfl (lv_at hl 1 rfl) ?_
  refine z_gf inG_X3 (ci := 3) rfl 2 (Nat.le_of_ble_eq_true rfl) rfl X Z wd_109 0 rfl (v := .ref (ad 12)) rfl dX3_toldParts_7 ?_
  refine lv_iconst (v := 0) X.x X.b dX3_toldParts_10 ki_0 ?_
  refine z_iald X Z 12 rfl (zvin (by decide)) dX3_toldParts_11 ?_
  refine lv_isub X.x X.b dX3_toldParts_12 ?_
  refine lv_istore_n (lv' := [(3, .int (q1 - (sets (0 : Int32).toNatClampNeg))), (2, .int x1), (0, .ref (ad 0)), (1, .int x1)]) X.x X.b dX3_toldParts_13 rfl hl (Nat.le_of_ble_eq_true rfl) rfl (fun ls hl => ?_)
  refine lv_iconst (v := 0) X.x X.b dX3_toldParts_14 ki_0 ?_
  refine lv_istore (lv' := [(4, .int 0), (3, .int (q1 - (sets (0 : Int32).toNatClampNeg))), (2, .int x1), (0, .ref (ad 0)), (1, .int x1)]) X.x X.b dX3_toldParts_15 hl (Nat.le_of_ble_eq_true rfl) rfl (fun ls hl => ?_)
  exact L17 zfuel sets x1 (q1 - (sets (0 : Int32).toNatClampNeg)) 0 hf _ _ _ Z (lv_sub hl [2, 1, 0] rfl)
set_option maxRecDepth 100000 in
set_option maxHeartbeats 4000000 in
theorem mX3_shortened (l : Launch) (Δ : zE) (ad : Nat → Nat) (reached : Int32) (lost : Int32) (size : Int32) (plots : Nat → Int32) (cliffs : Nat → Int32) (words : Nat → Int32) (needs : Nat → Int32) (told : Nat → Int32) (rea : Nat → Int32) (wread : Nat → Int32) (ltold : Nat → Int32) (lout : Nat → Int32) (sets : Nat → Int32) (x1 : Int32) {res : Int32} (hf : fX3_shortened sets x1 = some res) : zMet l Δ yX3_shortened cX3_shortened 3 (some .int) 0 0 [.ref (ad 0), .int x1] (wX3 Δ ad reached lost size plots cliffs words needs told rea wread ltold lout sets) (wX3 Δ ad reached lost size plots cliffs words needs told rea wread ltold lout sets) (some (.int res)) := by
  refine z_start (by decide +kernel) (Nat.le_of_ble_eq_true rfl) ?_
  intro p e s m args below meth c A ls X Z hl
  have hl : lv_has ls 3 [(0, .ref (ad 0)), (1, .int x1)] := hl
  rw [fX3_shortened.eq_1] at hf
  refine lv_aload_n X.x X.b dX3_shortened_0 rfl (lv_at hl 0 rfl) ?_
  refine z_gf inG_X3 (ci := 3) rfl 2 (Nat.le_of_ble_eq_true rfl) rfl X Z wd_109 0 rfl (v := .ref (ad 12)) rfl dX3_shortened_1 ?_
  refine lv_iconst (v := 1) X.x X.b dX3_shortened_4 ki_1 ?_
  refine z_iald X Z 12 rfl (zvin (by decide)) dX3_shortened_5 ?_
  refine lv_istore_n (lv' := [(2, .int (sets (1 : Int32).toNatClampNeg)), (0, .ref (ad 0)), (1, .int x1)]) X.x X.b dX3_shortened_6 rfl hl (Nat.le_of_ble_eq_true rfl) rfl (fun ls hl => ?_)
  refine lv_iload_n X.x X.b dX3_shortened_7 rfl (lv_at hl 0 rfl) ?_
  refine lv_iconst (v := 1) X.x X.b dX3_shortened_8 ki_1 ?_
  refine lv_icmp_ge (tgt := 14) X.x X.b dX3_shortened_9 (by decide) (fun b1 => ?_) (fun b1 => ?_)
  · have hf := zif_t b1 hf
    refine lv_iload_n X.x X.b dX3_shortened_14 rfl (lv_at hl 2 rfl) ?_
    refine lv_iload_n X.x X.b dX3_shortened_15 rfl (lv_at hl 0 rfl) ?_
    refine lv_iadd X.x X.b dX3_shortened_16 ?_
    refine lv_iconst (v := 1) X.x X.b dX3_shortened_17 ki_1 ?_
    refine lv_isub X.x X.b dX3_shortened_18 ?_
    refine lv_iload_n X.x X.b dX3_shortened_19 rfl (lv_at hl 0 rfl) ?_
    obtain ⟨b2, hf⟩ := zg_nz hf
    refine lv_idiv X.x X.b dX3_shortened_20 b2 ?_
    cases hf
    exact z_iret X Z dX3_shortened_21
  · have hf := zif_f b1 hf
    refine lv_iload_n X.x X.b dX3_shortened_12 rfl (lv_at hl 2 rfl) ?_
    cases hf
    exact z_iret X Z dX3_shortened_13
set_option maxRecDepth 100000 in
set_option maxHeartbeats 4000000 in
theorem mX3_lineWords (l : Launch) (Δ : zE) (ad : Nat → Nat) (reached : Int32) (lost : Int32) (size : Int32) (plots : Nat → Int32) (cliffs : Nat → Int32) (words : Nat → Int32) (needs : Nat → Int32) (told : Nat → Int32) (rea : Nat → Int32) (wread : Nat → Int32) (ltold : Nat → Int32) (lout : Nat → Int32) (sets : Nat → Int32) (x1 : Int32) {res : Int32} (hf : fX3_lineWords size words sets x1 = some res) : zMet l Δ yX3_lineWords cX3_lineWords 4 (some .int) 1 22 [.ref (ad 0), .int x1] (wX3 Δ ad reached lost size plots cliffs words needs told rea wread ltold lout sets) (wX3 Δ ad reached lost size plots cliffs words needs told rea wread ltold lout sets) (some (.int res)) := by
  refine z_start (by decide +kernel) (Nat.le_of_ble_eq_true rfl) ?_
  intro p e s m args below meth c A ls X Z hl
  have hl : lv_has ls 4 [(0, .ref (ad 0)), (1, .int x1)] := hl
  have L4 : ∀ (k : Nat) (size : Int32) (words : Nat → Int32) (sets : Nat → Int32) (v1 : Int32) (v2 : Int32) (v3 : Int32), fX3_lineWords_4 k size words sets v1 v2 v3 = some res → ∀ (H : Heap) (locs : List Loc) (ls : Array Slot), zW Δ A s.heap (wX3 Δ ad reached lost size plots cliffs words needs told rea wread ltold lout sets) H locs → lv_has ls 4 [(0, .ref (ad 0)), (1, .int v1), (2, .int v2), (3, .int v3)] → W p l e { frames := 1, cells := 0, slots := 0, locals := 22 } s m args below meth c H locs 0 0 (zEnd Δ below args s 0 0 A (some (.int res)) (wX3 Δ ad reached lost size plots cliffs words needs told rea wread ltold lout sets)) (F0 m 4 ls []) := by
    intro k
    induction k with
    | zero =>
      intro size words sets v1 v2 v3 hf
      rw [fX3_lineWords_4.eq_1] at hf
      cases hf
    | succ k ih =>
      intro size words sets v1 v2 v3 hf H locs ls Z hl
      rw [fX3_lineWords_4.eq_2] at hf
      refine lv_iload_n X.x X.b dX3_lineWords_4 rfl (lv_at hl 3 rfl) ?_
      refine lv_aload_n X.x X.b dX3_lineWords_5 rfl (lv_at hl 0 rfl) ?_
      refine z_gf inG_X3 (ci := 3) rfl 0 (Nat.le_of_ble_eq_true rfl) rfl X Z wd_105 0 rfl (v := .ref (ad 1)) rfl dX3_lineWords_6 ?_
      refine z_gf inG_X4 (ci := 4) rfl 0 (Nat.le_of_ble_eq_true rfl) rfl X Z wd_57 1 rfl (v := .int size) rfl dX3_lineWords_9 ?_
      refine lv_icmp_ge (tgt := 45) X.x X.b dX3_lineWords_12 (by decide) (fun b1 => ?_) (fun b1 => ?_)
      · have hf := zif_t b1 hf
        refine lv_iload_n X.x X.b dX3_lineWords_45 rfl (lv_at hl 2 rfl) ?_
        cases hf
        exact z_iret X Z dX3_lineWords_46
      · have hf := zif_f b1 hf
        refine lv_iload_n X.x X.b dX3_lineWords_15 rfl (lv_at hl 1 rfl) ?_
        refine lv_iload_n X.x X.b dX3_lineWords_16 rfl (lv_at hl 3 rfl) ?_
        obtain ⟨q1, hq1, hf⟩ := zb_ok hf
        refine z_callSN (host := "SerialRecaps") X Z hl (mX6_isIn l Δ  v1 v3 hq1) (by decide +kernel) wd_367 wd_19 wd_368 ok_X6_isIn (w' := (wX3 Δ ad reached lost size plots cliffs words needs told rea wread ltold lout sets)) zSub_nil rfl zput_nil rfl (rest := []) rfl (Nat.le_of_ble_eq_true rfl) ⟨Nat.le_of_ble_eq_true rfl, Nat.le_of_ble_eq_true rfl⟩ ⟨Nat.zero_le _, Nat.zero_le _⟩ (st1 := [.int q1]) rfl dX3_lineWords_17 (fun H locs Z => ?_)
        refine lv_if_eq (tgt := 39) X.x X.b dX3_lineWords_20 (by decide) (fun b2 => ?_) (fun b2 => ?_)
        · have hf := zif_t b2 hf
          refine lv_iinc (v := (v3 + 1)) (lv' := [(3, .int (v3 + 1)), (0, .ref (ad 0)), (1, .int v1), (2, .int v2)]) X.x X.b dX3_lineWords_39 hl (k := 3) rfl (congrArg _ ki_1) (Nat.le_of_ble_eq_true rfl) rfl (fun ls hl => ?_)
          refine lv_goto (tgt := 4) X.x X.b dX3_lineWords_42 (by decide) ?_
          exact ih size words sets v1 v2 (v3 + 1) hf _ _ _ Z (lv_sub hl [1, 2, 3, 0] rfl)
        · have hf := zif_f b2 hf
          refine lv_iload_n X.x X.b dX3_lineWords_23 rfl (lv_at hl 2 rfl) ?_
          refine lv_aload_n X.x X.b dX3_lineWords_24 rfl (lv_at hl 0 rfl) ?_
          refine lv_aload_n X.x X.b dX3_lineWords_25 rfl (lv_at hl 0 rfl) ?_
          refine z_gf inG_X3 (ci := 3) rfl 0 (Nat.le_of_ble_eq_true rfl) rfl X Z wd_105 0 rfl (v := .ref (ad 1)) rfl dX3_lineWords_26 ?_
          refine z_gf inG_X4 (ci := 4) rfl 3 (Nat.le_of_ble_eq_true rfl) rfl X Z wd_63 1 rfl (v := .ref (ad 4)) rfl dX3_lineWords_29 ?_
          refine lv_iload_n X.x X.b dX3_lineWords_32 rfl (lv_at hl 3 rfl) ?_
          obtain ⟨b3, hf⟩ := zg_in hf
          refine z_iald X Z 4 rfl b3 dX3_lineWords_33 ?_
          obtain ⟨q2, hq2, hf⟩ := zb_ok hf
          refine z_callV X Z hl (mX3_shortened l Δ ad reached lost size plots cliffs words needs told rea wread ltold lout sets (words v3.toNatClampNeg) hq2) wd_485 wd_487 wd_7 wd_20 wd_488 ok_X3_shortened 3 rfl 0 rfl (w' := (wX3 Δ ad reached lost size plots cliffs words needs told rea wread ltold lout sets)) su_6 fs_6 pu_6 rfl (rest := [.int v2]) rfl (Nat.le_of_ble_eq_true rfl) ⟨Nat.le_of_ble_eq_true rfl, Nat.le_of_ble_eq_true rfl⟩ ⟨Nat.zero_le _, Nat.zero_le _⟩ (st1 := [.int q2, .int v2]) rfl dX3_lineWords_34 (fun H locs Z => ?_)
          refine lv_iadd X.x X.b dX3_lineWords_37 ?_
          refine lv_istore_n (lv' := [(2, .int (v2 + q2)), (0, .ref (ad 0)), (1, .int v1), (3, .int v3)]) X.x X.b dX3_lineWords_38 rfl hl (Nat.le_of_ble_eq_true rfl) rfl (fun ls hl => ?_)
          refine lv_iinc (v := (v3 + 1)) (lv' := [(3, .int (v3 + 1)), (2, .int (v2 + q2)), (0, .ref (ad 0)), (1, .int v1)]) X.x X.b dX3_lineWords_39 hl (k := 3) rfl (congrArg _ ki_1) (Nat.le_of_ble_eq_true rfl) rfl (fun ls hl => ?_)
          refine lv_goto (tgt := 4) X.x X.b dX3_lineWords_42 (by decide) ?_
          exact ih size words sets v1 (v2 + q2) (v3 + 1) hf _ _ _ Z (lv_sub hl [2, 3, 1, 0] rfl)
  rw [fX3_lineWords.eq_1] at hf
  refine lv_iconst (v := 0) X.x X.b dX3_lineWords_0 ki_0 ?_
  refine lv_istore_n (lv' := [(2, .int 0), (0, .ref (ad 0)), (1, .int x1)]) X.x X.b dX3_lineWords_1 rfl hl (Nat.le_of_ble_eq_true rfl) rfl (fun ls hl => ?_)
  refine lv_iconst (v := 0) X.x X.b dX3_lineWords_2 ki_0 ?_
  refine lv_istore_n (lv' := [(3, .int 0), (2, .int 0), (0, .ref (ad 0)), (1, .int x1)]) X.x X.b dX3_lineWords_3 rfl hl (Nat.le_of_ble_eq_true rfl) rfl (fun ls hl => ?_)
  exact L4 zfuel size words sets x1 0 0 hf _ _ _ Z (lv_sub hl [2, 3, 1, 0] rfl)
set_option maxRecDepth 100000 in
set_option maxHeartbeats 4000000 in
theorem mX3_ofRecap (l : Launch) (Δ : zE) (ad : Nat → Nat) (reached : Int32) (lost : Int32) (size : Int32) (plots : Nat → Int32) (cliffs : Nat → Int32) (words : Nat → Int32) (needs : Nat → Int32) (told : Nat → Int32) (rea : Nat → Int32) (wread : Nat → Int32) (ltold : Nat → Int32) (lout : Nat → Int32) (sets : Nat → Int32) (x1 : Int32) (x2 : Int32) (x3 : Int32) {res : Int32} (hf : fX3_ofRecap size words needs told rea sets x1 x2 x3 = some res) : zMet l Δ yX3_ofRecap cX3_ofRecap 6 (some .int) 3 67 [.ref (ad 0), .int x1, .int x2, .int x3] (wX3 Δ ad reached lost size plots cliffs words needs told rea wread ltold lout sets) (wX3 Δ ad reached lost size plots cliffs words needs told rea wread ltold lout sets) (some (.int res)) := by
  refine z_start (by decide +kernel) (Nat.le_of_ble_eq_true rfl) ?_
  intro p e s m args below meth c A ls X Z hl
  have hl : lv_has ls 6 [(0, .ref (ad 0)), (1, .int x1), (2, .int x2), (3, .int x3)] := hl
  rw [fX3_ofRecap.eq_1] at hf
  refine lv_aload_n X.x X.b dX3_ofRecap_0 rfl (lv_at hl 0 rfl) ?_
  refine lv_iload_n X.x X.b dX3_ofRecap_1 rfl (lv_at hl 1 rfl) ?_
  refine lv_iload_n X.x X.b dX3_ofRecap_2 rfl (lv_at hl 2 rfl) ?_
  obtain ⟨q1, hq1, hf⟩ := zb_ok hf
  refine z_callV X Z hl (mX3_missedParts l Δ ad reached lost size plots cliffs words needs told rea wread ltold lout sets x1 x2 hq1) wd_461 wd_463 wd_4 wd_20 wd_464 ok_X3_missedParts 3 rfl 0 rfl (w' := (wX3 Δ ad reached lost size plots cliffs words needs told rea wread ltold lout sets)) su_6 fs_6 pu_6 rfl (rest := []) rfl (Nat.le_of_ble_eq_true rfl) ⟨Nat.le_of_ble_eq_true rfl, Nat.le_of_ble_eq_true rfl⟩ ⟨Nat.zero_le _, Nat.zero_le _⟩ (st1 := [.int q1]) rfl dX3_ofRecap_3 (fun H locs Z => ?_)
  refine lv_istore (lv' := [(4, .int q1), (0, .ref (ad 0)), (1, .int x1), (2, .int x2), (3, .int x3)]) X.x X.b dX3_ofRecap_6 hl (Nat.le_of_ble_eq_true rfl) rfl (fun ls hl => ?_)
  refine lv_aload_n X.x X.b dX3_ofRecap_8 rfl (lv_at hl 1 rfl) ?_
  refine lv_iload X.x X.b dX3_ofRecap_9 (lv_at hl 0 rfl) ?_
  obtain ⟨q2, hq2, hf⟩ := zb_ok hf
  refine z_callV X Z hl (mX3_toldParts l Δ ad reached lost size plots cliffs words needs told rea wread ltold lout sets q1 hq2) wd_471 wd_473 wd_5 wd_20 wd_474 ok_X3_toldParts 3 rfl 0 rfl (w' := (wX3 Δ ad reached lost size plots cliffs words needs told rea wread ltold lout sets)) su_6 fs_6 pu_6 rfl (rest := []) rfl (Nat.le_of_ble_eq_true rfl) ⟨Nat.le_of_ble_eq_true rfl, Nat.le_of_ble_eq_true rfl⟩ ⟨Nat.zero_le _, Nat.zero_le _⟩ (st1 := [.int q2]) rfl dX3_ofRecap_11 (fun H locs Z => ?_)
  refine lv_istore (lv' := [(5, .int q2), (4, .int q1), (0, .ref (ad 0)), (1, .int x1), (2, .int x2), (3, .int x3)]) X.x X.b dX3_ofRecap_14 hl (Nat.le_of_ble_eq_true rfl) rfl (fun ls hl => ?_)
  refine lv_iload_n X.x X.b dX3_ofRecap_16 rfl (lv_at hl 5 rfl) ?_
  by_cases b1 : x3 = 0
  · have hf := zif_t b1 hf
    refine lv_tableIn (tgt := 48) X.x X.b dX3_ofRecap_17 (zt_lo b1 (by decide)) (zt_hi b1 (by decide)) (zt_at (off := 31) b1 rfl) (by decide) ?_
    refine lv_iload X.x X.b dX3_ofRecap_48 (lv_at hl 0 rfl) ?_
    obtain ⟨q3, hq3, hf⟩ := zb_ok hf
    refine z_callS X Z hl (mJ6_bitCount_0f7a4 l Δ  q2 hq3) wd_475 wd_429 wd_33 wd_430 ok_J6_bitCount_0f7a4 (w' := (wX3 Δ ad reached lost size plots cliffs words needs told rea wread ltold lout sets)) zSub_nil rfl zput_nil rfl (rest := []) rfl (Nat.le_of_ble_eq_true rfl) ⟨Nat.le_of_ble_eq_true rfl, Nat.le_of_ble_eq_true rfl⟩ ⟨Nat.zero_le _, Nat.zero_le _⟩ (st1 := [.int q3]) rfl dX3_ofRecap_50 (fun H locs Z => ?_)
    cases hf
    exact z_iret X Z dX3_ofRecap_53
  · have hf := zif_f b1 hf
    by_cases b2 : x3 = 1
    · have hf := zif_t b2 hf
      refine lv_tableIn (tgt := 54) X.x X.b dX3_ofRecap_17 (zt_lo b2 (by decide)) (zt_hi b2 (by decide)) (zt_at (off := 37) b2 rfl) (by decide) ?_
      refine lv_aload_n X.x X.b dX3_ofRecap_54 rfl (lv_at hl 2 rfl) ?_
      refine lv_iload X.x X.b dX3_ofRecap_55 (lv_at hl 0 rfl) ?_
      obtain ⟨q4, hq4, hf⟩ := zb_ok hf
      refine z_callV X Z hl (mX3_lineWords l Δ ad reached lost size plots cliffs words needs told rea wread ltold lout sets q2 hq4) wd_480 wd_482 wd_6 wd_20 wd_483 ok_X3_lineWords 3 rfl 0 rfl (w' := (wX3 Δ ad reached lost size plots cliffs words needs told rea wread ltold lout sets)) su_6 fs_6 pu_6 rfl (rest := []) rfl (Nat.le_of_ble_eq_true rfl) ⟨Nat.le_of_ble_eq_true rfl, Nat.le_of_ble_eq_true rfl⟩ ⟨Nat.zero_le _, Nat.zero_le _⟩ (st1 := [.int q4]) rfl dX3_ofRecap_57 (fun H locs Z => ?_)
      cases hf
      exact z_iret X Z dX3_ofRecap_60
    · have hf := zif_f b2 hf
      by_cases b3 : x3 = 2
      · have hf := zif_t b3 hf
        refine lv_tableIn (tgt := 61) X.x X.b dX3_ofRecap_17 (zt_lo b3 (by decide)) (zt_hi b3 (by decide)) (zt_at (off := 44) b3 rfl) (by decide) ?_
        refine lv_iload X.x X.b dX3_ofRecap_61 (lv_at hl 0 rfl) ?_
        cases hf
        exact z_iret X Z dX3_ofRecap_63
      · have hf := zif_f b3 hf
        by_cases b4 : x3 = 3
        · have hf := zif_t b4 hf
          refine lv_tableIn (tgt := 64) X.x X.b dX3_ofRecap_17 (zt_lo b4 (by decide)) (zt_hi b4 (by decide)) (zt_at (off := 47) b4 rfl) (by decide) ?_
          refine lv_iload X.x X.b dX3_ofRecap_64 (lv_at hl 1 rfl) ?_
          obtain ⟨q5, hq5, hf⟩ := zb_ok hf
          refine z_callS X Z hl (mJ6_bitCount_0f7a4 l Δ  q1 hq5) wd_475 wd_429 wd_33 wd_430 ok_J6_bitCount_0f7a4 (w' := (wX3 Δ ad reached lost size plots cliffs words needs told rea wread ltold lout sets)) zSub_nil rfl zput_nil rfl (rest := []) rfl (Nat.le_of_ble_eq_true rfl) ⟨Nat.le_of_ble_eq_true rfl, Nat.le_of_ble_eq_true rfl⟩ ⟨Nat.zero_le _, Nat.zero_le _⟩ (st1 := [.int q5]) rfl dX3_ofRecap_66 (fun H locs Z => ?_)
          refine lv_iload X.x X.b dX3_ofRecap_69 (lv_at hl 0 rfl) ?_
          obtain ⟨q6, hq6, hf⟩ := zb_ok hf
          refine z_callS X Z hl (mJ6_bitCount_0f7a4 l Δ  q2 hq6) wd_475 wd_429 wd_33 wd_430 ok_J6_bitCount_0f7a4 (w' := (wX3 Δ ad reached lost size plots cliffs words needs told rea wread ltold lout sets)) zSub_nil rfl zput_nil rfl (rest := [.int q5]) rfl (Nat.le_of_ble_eq_true rfl) ⟨Nat.le_of_ble_eq_true rfl, Nat.le_of_ble_eq_true rfl⟩ ⟨Nat.zero_le _, Nat.zero_le _⟩ (st1 := [.int q6, .int q5]) rfl dX3_ofRecap_71 (fun H locs Z => ?_)
          refine lv_isub X.x X.b dX3_ofRecap_74 ?_
          cases hf
          exact z_iret X Z dX3_ofRecap_75
        · have hf := zif_f b4 hf
          refine lv_tableOut (tgt := 76) X.x X.b dX3_ofRecap_17 (by have := (x3 : Int32).toInt; have := zt_ne (n := 0) b1 (by decide); have := zt_ne (n := 1) b2 (by decide); have := zt_ne (n := 2) b3 (by decide); have := zt_ne (n := 3) b4 (by decide); omega) (by decide) ?_
          refine lv_aload_n X.x X.b dX3_ofRecap_76 rfl (lv_at hl 2 rfl) ?_
          refine z_gf inG_X3 (ci := 3) rfl 0 (Nat.le_of_ble_eq_true rfl) rfl X Z wd_105 0 rfl (v := .ref (ad 1)) rfl dX3_ofRecap_77 ?_
          refine z_gf inG_X4 (ci := 4) rfl 3 (Nat.le_of_ble_eq_true rfl) rfl X Z wd_63 1 rfl (v := .ref (ad 4)) rfl dX3_ofRecap_80 ?_
          refine lv_iload_n X.x X.b dX3_ofRecap_83 rfl (lv_at hl 4 rfl) ?_
          obtain ⟨b5, hf⟩ := zg_in hf
          refine z_iald X Z 4 rfl b5 dX3_ofRecap_84 ?_
          refine lv_aload_n X.x X.b dX3_ofRecap_85 rfl (lv_at hl 2 rfl) ?_
          refine lv_iload X.x X.b dX3_ofRecap_86 (lv_at hl 0 rfl) ?_
          obtain ⟨q7, hq7, hf⟩ := zb_ok hf
          refine z_callV X Z hl (mX3_lineWords l Δ ad reached lost size plots cliffs words needs told rea wread ltold lout sets q2 hq7) wd_480 wd_482 wd_6 wd_20 wd_483 ok_X3_lineWords 3 rfl 0 rfl (w' := (wX3 Δ ad reached lost size plots cliffs words needs told rea wread ltold lout sets)) su_6 fs_6 pu_6 rfl (rest := [.int (words x2.toNatClampNeg)]) rfl (Nat.le_of_ble_eq_true rfl) ⟨Nat.le_of_ble_eq_true rfl, Nat.le_of_ble_eq_true rfl⟩ ⟨Nat.zero_le _, Nat.zero_le _⟩ (st1 := [.int q7, .int (words x2.toNatClampNeg)]) rfl dX3_ofRecap_88 (fun H locs Z => ?_)
          refine lv_iadd X.x X.b dX3_ofRecap_91 ?_
          cases hf
          exact z_iret X Z dX3_ofRecap_92
set_option maxRecDepth 100000 in
set_option maxHeartbeats 4000000 in
theorem mX3_deliver (l : Launch) (Δ : zE) (ad : Nat → Nat) (reached : Int32) (lost : Int32) (size : Int32) (plots : Nat → Int32) (cliffs : Nat → Int32) (words : Nat → Int32) (needs : Nat → Int32) (told : Nat → Int32) (rea : Nat → Int32) (wread : Nat → Int32) (ltold : Nat → Int32) (lout : Nat → Int32) (sets : Nat → Int32) (x1 : Int32) (x2 : Int32) {res : Int32 × Int32 × (Nat → Int32) × (Nat → Int32) × (Nat → Int32) × (Nat → Int32) × (Nat → Int32)} (hf : fX3_deliver reached size words needs told rea wread ltold lout sets x1 x2 = some res) : zMet l Δ yX3_deliver cX3_deliver 6 (some .int) 3 67 [.ref (ad 0), .int x1, .int x2] (wX3 Δ ad reached lost size plots cliffs words needs told rea wread ltold lout sets) (wX3 Δ ad res.2.1 lost size plots cliffs words needs res.2.2.1 res.2.2.2.1 res.2.2.2.2.1 res.2.2.2.2.2.1 res.2.2.2.2.2.2 sets) (some (.int res.1)) := by
  refine z_start (by decide +kernel) (Nat.le_of_ble_eq_true rfl) ?_
  intro p e s m args below meth c A ls X Z hl
  have hl : lv_has ls 6 [(0, .ref (ad 0)), (1, .int x1), (2, .int x2)] := hl
  rw [fX3_deliver.eq_1] at hf
  refine lv_aload_n X.x X.b dX3_deliver_0 rfl (lv_at hl 0 rfl) ?_
  refine lv_iload_n X.x X.b dX3_deliver_1 rfl (lv_at hl 1 rfl) ?_
  refine lv_iload_n X.x X.b dX3_deliver_2 rfl (lv_at hl 2 rfl) ?_
  obtain ⟨q1, hq1, hf⟩ := zb_ok hf
  refine z_callV X Z hl (mX3_missedParts l Δ ad reached lost size plots cliffs words needs told rea wread ltold lout sets x1 x2 hq1) wd_461 wd_463 wd_4 wd_20 wd_464 ok_X3_missedParts 3 rfl 0 rfl (w' := (wX3 Δ ad reached lost size plots cliffs words needs told rea wread ltold lout sets)) su_6 fs_6 pu_6 rfl (rest := []) rfl (Nat.le_of_ble_eq_true rfl) ⟨Nat.le_of_ble_eq_true rfl, Nat.le_of_ble_eq_true rfl⟩ ⟨Nat.zero_le _, Nat.zero_le _⟩ (st1 := [.int q1]) rfl dX3_deliver_3 (fun H locs Z => ?_)
  refine lv_istore_n (lv' := [(3, .int q1), (0, .ref (ad 0)), (1, .int x1), (2, .int x2)]) X.x X.b dX3_deliver_6 rfl hl (Nat.le_of_ble_eq_true rfl) rfl (fun ls hl => ?_)
  refine lv_aload_n X.x X.b dX3_deliver_7 rfl (lv_at hl 1 rfl) ?_
  refine lv_iload_n X.x X.b dX3_deliver_8 rfl (lv_at hl 0 rfl) ?_
  obtain ⟨q2, hq2, hf⟩ := zb_ok hf
  refine z_callV X Z hl (mX3_toldParts l Δ ad reached lost size plots cliffs words needs told rea wread ltold lout sets q1 hq2) wd_471 wd_473 wd_5 wd_20 wd_474 ok_X3_toldParts 3 rfl 0 rfl (w' := (wX3 Δ ad reached lost size plots cliffs words needs told rea wread ltold lout sets)) su_6 fs_6 pu_6 rfl (rest := []) rfl (Nat.le_of_ble_eq_true rfl) ⟨Nat.le_of_ble_eq_true rfl, Nat.le_of_ble_eq_true rfl⟩ ⟨Nat.zero_le _, Nat.zero_le _⟩ (st1 := [.int q2]) rfl dX3_deliver_9 (fun H locs Z => ?_)
  refine lv_istore (lv' := [(4, .int q2), (3, .int q1), (0, .ref (ad 0)), (1, .int x1), (2, .int x2)]) X.x X.b dX3_deliver_12 hl (Nat.le_of_ble_eq_true rfl) rfl (fun ls hl => ?_)
  refine lv_iload X.x X.b dX3_deliver_14 (lv_at hl 0 rfl) ?_
  obtain ⟨q3, hq3, hf⟩ := zb_ok hf
  refine z_callS X Z hl (mJ6_bitCount_0f7a4 l Δ  q2 hq3) wd_475 wd_429 wd_33 wd_430 ok_J6_bitCount_0f7a4 (w' := (wX3 Δ ad reached lost size plots cliffs words needs told rea wread ltold lout sets)) zSub_nil rfl zput_nil rfl (rest := []) rfl (Nat.le_of_ble_eq_true rfl) ⟨Nat.le_of_ble_eq_true rfl, Nat.le_of_ble_eq_true rfl⟩ ⟨Nat.zero_le _, Nat.zero_le _⟩ (st1 := [.int q3]) rfl dX3_deliver_16 (fun H locs Z => ?_)
  refine lv_istore (lv' := [(5, .int q3), (4, .int q2), (3, .int q1), (0, .ref (ad 0)), (1, .int x1), (2, .int x2)]) X.x X.b dX3_deliver_19 hl (Nat.le_of_ble_eq_true rfl) rfl (fun ls hl => ?_)
  refine lv_aload_n X.x X.b dX3_deliver_21 rfl (lv_at hl 3 rfl) ?_
  refine z_gf inG_X3 (ci := 3) rfl 1 (Nat.le_of_ble_eq_true rfl) rfl X Z wd_107 0 rfl (v := .ref (ad 6)) rfl dX3_deliver_22 ?_
  refine lv_iload_n X.x X.b dX3_deliver_25 rfl (lv_at hl 4 rfl) ?_
  refine lv_iload_n X.x X.b dX3_deliver_26 rfl (lv_at hl 5 rfl) ?_
  refine lv_iload X.x X.b dX3_deliver_27 (lv_at hl 1 rfl) ?_
  obtain ⟨q4, hq4, hf⟩ := zb_ok hf
  refine z_callV X Z hl (mX0_takeIn l Δ (fun j => ad (j + 6)) told rea wread ltold lout x1 x2 q2 hq4) wd_476 wd_477 wd_478 wd_22 wd_479 ok_X0_takeIn 0 rfl 6 rfl (w' := (wX3 Δ ad reached lost size plots cliffs words needs q4.1 q4.2 wread ltold lout sets)) su_4 fs_4 pu_4 rfl (rest := []) rfl (Nat.le_of_ble_eq_true rfl) ⟨Nat.le_of_ble_eq_true rfl, Nat.le_of_ble_eq_true rfl⟩ ⟨Nat.zero_le _, Nat.zero_le _⟩ (st1 := []) rfl dX3_deliver_29 (fun H locs Z => ?_)
  refine lv_aload_n X.x X.b dX3_deliver_32 rfl (lv_at hl 3 rfl) ?_
  refine z_gf inG_X3 (ci := 3) rfl 1 (Nat.le_of_ble_eq_true rfl) rfl X Z wd_107 0 rfl (v := .ref (ad 6)) rfl dX3_deliver_33 ?_
  refine z_gf inG_X0 (ci := 0) rfl 2 (Nat.le_of_ble_eq_true rfl) rfl X Z wd_89 6 rfl (v := .ref (ad 9)) rfl dX3_deliver_36 ?_
  refine lv_iload_n X.x X.b dX3_deliver_39 rfl (lv_at hl 4 rfl) ?_
  refine lv_dup2_11 X.x X.b dX3_deliver_40 rfl rfl ?_
  obtain ⟨b1, hf⟩ := zg_in hf
  refine z_iald X Z 9 rfl b1 dX3_deliver_41 ?_
  refine lv_aload_n X.x X.b dX3_deliver_42 rfl (lv_at hl 3 rfl) ?_
  refine z_gf inG_X3 (ci := 3) rfl 0 (Nat.le_of_ble_eq_true rfl) rfl X Z wd_105 0 rfl (v := .ref (ad 1)) rfl dX3_deliver_43 ?_
  refine z_gf inG_X4 (ci := 4) rfl 3 (Nat.le_of_ble_eq_true rfl) rfl X Z wd_63 1 rfl (v := .ref (ad 4)) rfl dX3_deliver_46 ?_
  refine lv_iload_n X.x X.b dX3_deliver_49 rfl (lv_at hl 5 rfl) ?_
  obtain ⟨b2, hf⟩ := zg_in hf
  refine z_iald X Z 4 rfl b2 dX3_deliver_50 ?_
  refine lv_aload_n X.x X.b dX3_deliver_51 rfl (lv_at hl 3 rfl) ?_
  refine lv_iload X.x X.b dX3_deliver_52 (lv_at hl 1 rfl) ?_
  obtain ⟨q5, hq5, hf⟩ := zb_ok hf
  refine z_callV X Z hl (mX3_lineWords l Δ ad reached lost size plots cliffs words needs q4.1 q4.2 wread ltold lout sets q2 hq5) wd_480 wd_482 wd_6 wd_20 wd_483 ok_X3_lineWords 3 rfl 0 rfl (w' := (wX3 Δ ad reached lost size plots cliffs words needs q4.1 q4.2 wread ltold lout sets)) su_6 fs_6 pu_6 rfl (rest := [.int (words x2.toNatClampNeg), .int (wread x1.toNatClampNeg), .int x1, .ref (ad 9)]) rfl (Nat.le_of_ble_eq_true rfl) ⟨Nat.le_of_ble_eq_true rfl, Nat.le_of_ble_eq_true rfl⟩ ⟨Nat.zero_le _, Nat.zero_le _⟩ (st1 := [.int q5, .int (words x2.toNatClampNeg), .int (wread x1.toNatClampNeg), .int x1, .ref (ad 9)]) rfl dX3_deliver_54 (fun H locs Z => ?_)
  refine lv_iadd X.x X.b dX3_deliver_57 ?_
  refine lv_iadd X.x X.b dX3_deliver_58 ?_
  obtain ⟨b3, hf⟩ := zg_in hf
  refine z_iast (w' := (wX3 Δ ad reached lost size plots cliffs words needs q4.1 q4.2 (upd wread x1.toNatClampNeg ((wread x1.toNatClampNeg) + ((words x2.toNatClampNeg) + q5))) ltold lout sets)) X Z 9 rfl b3 rfl dX3_deliver_59 (fun H locs Z => ?_)
  refine lv_aload_n X.x X.b dX3_deliver_60 rfl (lv_at hl 3 rfl) ?_
  refine z_gf inG_X3 (ci := 3) rfl 1 (Nat.le_of_ble_eq_true rfl) rfl X Z wd_107 0 rfl (v := .ref (ad 6)) rfl dX3_deliver_61 ?_
  refine z_gf inG_X0 (ci := 0) rfl 3 (Nat.le_of_ble_eq_true rfl) rfl X Z wd_91 6 rfl (v := .ref (ad 10)) rfl dX3_deliver_64 ?_
  refine lv_iload_n X.x X.b dX3_deliver_67 rfl (lv_at hl 4 rfl) ?_
  refine lv_dup2_11 X.x X.b dX3_deliver_68 rfl rfl ?_
  obtain ⟨b4, hf⟩ := zg_in hf
  refine z_iald X Z 10 rfl b4 dX3_deliver_69 ?_
  refine lv_iload X.x X.b dX3_deliver_70 (lv_at hl 0 rfl) ?_
  refine lv_iadd X.x X.b dX3_deliver_72 ?_
  obtain ⟨b5, hf⟩ := zg_in hf
  refine z_iast (w' := (wX3 Δ ad reached lost size plots cliffs words needs q4.1 q4.2 (upd wread x1.toNatClampNeg ((wread x1.toNatClampNeg) + ((words x2.toNatClampNeg) + q5))) (upd ltold x1.toNatClampNeg ((ltold x1.toNatClampNeg) + q3)) lout sets)) X Z 10 rfl b5 rfl dX3_deliver_73 (fun H locs Z => ?_)
  refine lv_aload_n X.x X.b dX3_deliver_74 rfl (lv_at hl 3 rfl) ?_
  refine z_gf inG_X3 (ci := 3) rfl 1 (Nat.le_of_ble_eq_true rfl) rfl X Z wd_107 0 rfl (v := .ref (ad 6)) rfl dX3_deliver_75 ?_
  refine z_gf inG_X0 (ci := 0) rfl 4 (Nat.le_of_ble_eq_true rfl) rfl X Z wd_93 6 rfl (v := .ref (ad 11)) rfl dX3_deliver_78 ?_
  refine lv_iload_n X.x X.b dX3_deliver_81 rfl (lv_at hl 4 rfl) ?_
  refine lv_dup2_11 X.x X.b dX3_deliver_82 rfl rfl ?_
  obtain ⟨b6, hf⟩ := zg_in hf
  refine z_iald X Z 11 rfl b6 dX3_deliver_83 ?_
  refine lv_iload_n X.x X.b dX3_deliver_84 rfl (lv_at hl 2 rfl) ?_
  obtain ⟨q6, hq6, hf⟩ := zb_ok hf
  refine z_callS X Z hl (mJ6_bitCount_0f7a4 l Δ  q1 hq6) wd_475 wd_429 wd_33 wd_430 ok_J6_bitCount_0f7a4 (w' := (wX3 Δ ad reached lost size plots cliffs words needs q4.1 q4.2 (upd wread x1.toNatClampNeg ((wread x1.toNatClampNeg) + ((words x2.toNatClampNeg) + q5))) (upd ltold x1.toNatClampNeg ((ltold x1.toNatClampNeg) + q3)) lout sets)) zSub_nil rfl zput_nil rfl (rest := [.int (lout x1.toNatClampNeg), .int x1, .ref (ad 11)]) rfl (Nat.le_of_ble_eq_true rfl) ⟨Nat.le_of_ble_eq_true rfl, Nat.le_of_ble_eq_true rfl⟩ ⟨Nat.zero_le _, Nat.zero_le _⟩ (st1 := [.int q6, .int (lout x1.toNatClampNeg), .int x1, .ref (ad 11)]) rfl dX3_deliver_85 (fun H locs Z => ?_)
  refine lv_iload X.x X.b dX3_deliver_88 (lv_at hl 0 rfl) ?_
  refine lv_isub X.x X.b dX3_deliver_90 ?_
  refine lv_iadd X.x X.b dX3_deliver_91 ?_
  obtain ⟨b7, hf⟩ := zg_in hf
  refine z_iast (w' := (wX3 Δ ad reached lost size plots cliffs words needs q4.1 q4.2 (upd wread x1.toNatClampNeg ((wread x1.toNatClampNeg) + ((words x2.toNatClampNeg) + q5))) (upd ltold x1.toNatClampNeg ((ltold x1.toNatClampNeg) + q3)) (upd lout x1.toNatClampNeg ((lout x1.toNatClampNeg) + (q6 - q3))) sets)) X Z 11 rfl b7 rfl dX3_deliver_92 (fun H locs Z => ?_)
  refine lv_aload_n X.x X.b dX3_deliver_93 rfl (lv_at hl 3 rfl) ?_
  refine lv_dup X.x X.b dX3_deliver_94 rfl ?_
  refine z_gf inG_X3 (ci := 3) rfl 3 (Nat.le_of_ble_eq_true rfl) rfl X Z wd_111 0 rfl (v := .int reached) rfl dX3_deliver_95 ?_
  refine lv_iconst (v := 1) X.x X.b dX3_deliver_98 ki_1 ?_
  refine lv_iadd X.x X.b dX3_deliver_99 ?_
  refine z_pf (w' := (wX3 Δ ad (reached + 1) lost size plots cliffs words needs q4.1 q4.2 (upd wread x1.toNatClampNeg ((wread x1.toNatClampNeg) + ((words x2.toNatClampNeg) + q5))) (upd ltold x1.toNatClampNeg ((ltold x1.toNatClampNeg) + q3)) (upd lout x1.toNatClampNeg ((lout x1.toNatClampNeg) + (q6 - q3))) sets)) inG_X3 (ci := 3) rfl tyX3 tyX3_ok nmX3 3 (Nat.le_of_ble_eq_true rfl) rfl rfl X Z wd_111 0 rfl rfl rfl (Nat.le_of_ble_eq_true rfl) rfl dX3_deliver_100 (fun H locs Z => ?_)
  refine lv_iload X.x X.b dX3_deliver_103 (lv_at hl 0 rfl) ?_
  cases hf
  exact z_iret X Z dX3_deliver_105
set_option maxRecDepth 100000 in
set_option maxHeartbeats 4000000 in
theorem mX3_deliverToAll (l : Launch) (Δ : zE) (ad : Nat → Nat) (reached : Int32) (lost : Int32) (size : Int32) (plots : Nat → Int32) (cliffs : Nat → Int32) (words : Nat → Int32) (needs : Nat → Int32) (told : Nat → Int32) (rea : Nat → Int32) (wread : Nat → Int32) (ltold : Nat → Int32) (lout : Nat → Int32) (sets : Nat → Int32) (x1 : Int32) (x2 : Int32) {res : Int32 × Int32 × Int32 × (Nat → Int32) × (Nat → Int32) × (Nat → Int32) × (Nat → Int32) × (Nat → Int32)} (hf : fX3_deliverToAll reached lost size words needs told rea wread ltold lout sets x1 x2 = some res) : zMet l Δ yX3_deliverToAll cX3_deliverToAll 5 (some .int) 4 92 [.ref (ad 0), .int x1, .int x2] (wX3 Δ ad reached lost size plots cliffs words needs told rea wread ltold lout sets) (wX3 Δ ad res.2.1 res.2.2.1 size plots cliffs words needs res.2.2.2.1 res.2.2.2.2.1 res.2.2.2.2.2.1 res.2.2.2.2.2.2.1 res.2.2.2.2.2.2.2 sets) (some (.int res.1)) := by
  refine z_start (by decide +kernel) (Nat.le_of_ble_eq_true rfl) ?_
  intro p e s m args below meth c A ls X Z hl
  have hl : lv_has ls 5 [(0, .ref (ad 0)), (1, .int x1), (2, .int x2)] := hl
  have L5 : ∀ (k : Nat) (reached : Int32) (lost : Int32) (size : Int32) (words : Nat → Int32) (needs : Nat → Int32) (told : Nat → Int32) (rea : Nat → Int32) (wread : Nat → Int32) (ltold : Nat → Int32) (lout : Nat → Int32) (sets : Nat → Int32) (v1 : Int32) (v2 : Int32) (v3 : Int32) (v4 : Int32), fX3_deliverToAll_5 k reached lost size words needs told rea wread ltold lout sets v1 v2 v3 v4 = some res → ∀ (H : Heap) (locs : List Loc) (ls : Array Slot), zW Δ A s.heap (wX3 Δ ad reached lost size plots cliffs words needs told rea wread ltold lout sets) H locs → lv_has ls 5 [(0, .ref (ad 0)), (1, .int v1), (2, .int v2), (3, .int v3), (4, .int v4)] → W p l e { frames := 4, cells := 0, slots := 0, locals := 92 } s m args below meth c H locs 0 0 (zEnd Δ below args s 0 0 A (some (.int res.1)) (wX3 Δ ad res.2.1 res.2.2.1 size plots cliffs words needs res.2.2.2.1 res.2.2.2.2.1 res.2.2.2.2.2.1 res.2.2.2.2.2.2.1 res.2.2.2.2.2.2.2 sets)) (F0 m 5 ls []) := by
    intro k
    induction k with
    | zero =>
      intro reached lost size words needs told rea wread ltold lout sets v1 v2 v3 v4 hf
      rw [fX3_deliverToAll_5.eq_1] at hf
      cases hf
    | succ k ih =>
      intro reached lost size words needs told rea wread ltold lout sets v1 v2 v3 v4 hf H locs ls Z hl
      rw [fX3_deliverToAll_5.eq_2] at hf
      refine lv_iload X.x X.b dX3_deliverToAll_5 (lv_at hl 4 rfl) ?_
      refine lv_bipush (v := 6) X.x X.b dX3_deliverToAll_7 kb_6 ?_
      refine lv_icmp_ge (tgt := 64) X.x X.b dX3_deliverToAll_9 (by decide) (fun b1 => ?_) (fun b1 => ?_)
      · have hf := zif_t b1 hf
        refine lv_iload_n X.x X.b dX3_deliverToAll_64 rfl (lv_at hl 3 rfl) ?_
        cases hf
        exact z_iret X Z dX3_deliverToAll_65
      · have hf := zif_f b1 hf
        refine lv_aload_n X.x X.b dX3_deliverToAll_12 rfl (lv_at hl 0 rfl) ?_
        refine z_gf inG_X3 (ci := 3) rfl 1 (Nat.le_of_ble_eq_true rfl) rfl X Z wd_107 0 rfl (v := .ref (ad 6)) rfl dX3_deliverToAll_13 ?_
        refine lv_iload X.x X.b dX3_deliverToAll_16 (lv_at hl 4 rfl) ?_
        refine lv_iload_n X.x X.b dX3_deliverToAll_18 rfl (lv_at hl 1 rfl) ?_
        obtain ⟨q1, hq1, hf⟩ := zb_ok hf
        refine z_callV X Z hl (mX0_hasRead l Δ (fun j => ad (j + 6)) told rea wread ltold lout v4 v1 hq1) wd_498 wd_424 wd_425 wd_22 wd_426 ok_X0_hasRead 0 rfl 6 rfl (w' := (wX3 Δ ad reached lost size plots cliffs words needs told rea wread ltold lout sets)) su_4 fs_4 pu_4 rfl (rest := []) rfl (Nat.le_of_ble_eq_true rfl) ⟨Nat.le_of_ble_eq_true rfl, Nat.le_of_ble_eq_true rfl⟩ ⟨Nat.zero_le _, Nat.zero_le _⟩ (st1 := [.int q1]) rfl dX3_deliverToAll_19 (fun H locs Z => ?_)
        refine lv_if_ne (tgt := 58) X.x X.b dX3_deliverToAll_22 (by decide) (fun b2 => ?_) (fun b2 => ?_)
        · have hf := zif_f b2 hf
          refine lv_iinc (v := (v4 + 1)) (lv' := [(4, .int (v4 + 1)), (0, .ref (ad 0)), (1, .int v1), (2, .int v2), (3, .int v3)]) X.x X.b dX3_deliverToAll_58 hl (k := 4) rfl (congrArg _ ki_1) (Nat.le_of_ble_eq_true rfl) rfl (fun ls hl => ?_)
          refine lv_goto (tgt := 5) X.x X.b dX3_deliverToAll_61 (by decide) ?_
          exact ih reached lost size words needs told rea wread ltold lout sets v1 v2 v3 (v4 + 1) hf _ _ _ Z (lv_sub hl [1, 2, 3, 4, 0] rfl)
        · have hf := zif_t b2 hf
          refine lv_iload_n X.x X.b dX3_deliverToAll_25 rfl (lv_at hl 2 rfl) ?_
          refine lv_iload X.x X.b dX3_deliverToAll_26 (lv_at hl 4 rfl) ?_
          obtain ⟨q2, hq2, hf⟩ := zb_ok hf
          refine z_callSN (host := "SerialRecaps") X Z hl (mX6_isIn l Δ  v2 v4 hq2) (by decide +kernel) wd_367 wd_19 wd_368 ok_X6_isIn (w' := (wX3 Δ ad reached lost size plots cliffs words needs told rea wread ltold lout sets)) zSub_nil rfl zput_nil rfl (rest := []) rfl (Nat.le_of_ble_eq_true rfl) ⟨Nat.le_of_ble_eq_true rfl, Nat.le_of_ble_eq_true rfl⟩ ⟨Nat.zero_le _, Nat.zero_le _⟩ (st1 := [.int q2]) rfl dX3_deliverToAll_28 (fun H locs Z => ?_)
          refine lv_if_eq (tgt := 47) X.x X.b dX3_deliverToAll_31 (by decide) (fun b3 => ?_) (fun b3 => ?_)
          · have hf := zif_t b3 hf
            refine lv_aload_n X.x X.b dX3_deliverToAll_47 rfl (lv_at hl 0 rfl) ?_
            refine lv_iload X.x X.b dX3_deliverToAll_48 (lv_at hl 4 rfl) ?_
            refine lv_iload_n X.x X.b dX3_deliverToAll_50 rfl (lv_at hl 1 rfl) ?_
            obtain ⟨q3, hq3, hf⟩ := zb_ok hf
            refine z_callV X Z hl (mX3_deliver l Δ ad reached lost size plots cliffs words needs told rea wread ltold lout sets v4 v1 hq3) wd_499 wd_458 wd_459 wd_20 wd_460 ok_X3_deliver 3 rfl 0 rfl (w' := (wX3 Δ ad q3.2.1 lost size plots cliffs words needs q3.2.2.1 q3.2.2.2.1 q3.2.2.2.2.1 q3.2.2.2.2.2.1 q3.2.2.2.2.2.2 sets)) su_6 fs_6 pu_6 rfl (rest := []) rfl (Nat.le_of_ble_eq_true rfl) ⟨Nat.le_of_ble_eq_true rfl, Nat.le_of_ble_eq_true rfl⟩ ⟨Nat.zero_le _, Nat.zero_le _⟩ (st1 := [.int q3.1]) rfl dX3_deliverToAll_51 (fun H locs Z => ?_)
            refine lv_pop X.x X.b dX3_deliverToAll_54 rfl ?_
            refine lv_iinc (v := (v3 + 1)) (lv' := [(3, .int (v3 + 1)), (0, .ref (ad 0)), (1, .int v1), (2, .int v2), (4, .int v4)]) X.x X.b dX3_deliverToAll_55 hl (k := 3) rfl (congrArg _ ki_1) (Nat.le_of_ble_eq_true rfl) rfl (fun ls hl => ?_)
            refine lv_iinc (v := (v4 + 1)) (lv' := [(4, .int (v4 + 1)), (3, .int (v3 + 1)), (0, .ref (ad 0)), (1, .int v1), (2, .int v2)]) X.x X.b dX3_deliverToAll_58 hl (k := 4) rfl (congrArg _ ki_1) (Nat.le_of_ble_eq_true rfl) rfl (fun ls hl => ?_)
            refine lv_goto (tgt := 5) X.x X.b dX3_deliverToAll_61 (by decide) ?_
            exact ih q3.2.1 lost size words needs q3.2.2.1 q3.2.2.2.1 q3.2.2.2.2.1 q3.2.2.2.2.2.1 q3.2.2.2.2.2.2 sets v1 v2 (v3 + 1) (v4 + 1) hf _ _ _ Z (lv_sub hl [2, 3, 4, 1, 0] rfl)
          · have hf := zif_f b3 hf
            refine lv_aload_n X.x X.b dX3_deliverToAll_34 rfl (lv_at hl 0 rfl) ?_
            refine lv_dup X.x X.b dX3_deliverToAll_35 rfl ?_
            refine z_gf inG_X3 (ci := 3) rfl 4 (Nat.le_of_ble_eq_true rfl) rfl X Z wd_112 0 rfl (v := .int lost) rfl dX3_deliverToAll_36 ?_
            refine lv_iconst (v := 1) X.x X.b dX3_deliverToAll_39 ki_1 ?_
            refine lv_iadd X.x X.b dX3_deliverToAll_40 ?_
            refine z_pf (w' := (wX3 Δ ad reached (lost + 1) size plots cliffs words needs told rea wread ltold lout sets)) inG_X3 (ci := 3) rfl tyX3 tyX3_ok nmX3 4 (Nat.le_of_ble_eq_true rfl) rfl rfl X Z wd_112 0 rfl rfl rfl (Nat.le_of_ble_eq_true rfl) rfl dX3_deliverToAll_41 (fun H locs Z => ?_)
            refine lv_goto (tgt := 58) X.x X.b dX3_deliverToAll_44 (by decide) ?_
            refine lv_iinc (v := (v4 + 1)) (lv' := [(4, .int (v4 + 1)), (0, .ref (ad 0)), (1, .int v1), (2, .int v2), (3, .int v3)]) X.x X.b dX3_deliverToAll_58 hl (k := 4) rfl (congrArg _ ki_1) (Nat.le_of_ble_eq_true rfl) rfl (fun ls hl => ?_)
            refine lv_goto (tgt := 5) X.x X.b dX3_deliverToAll_61 (by decide) ?_
            exact ih reached (lost + 1) size words needs told rea wread ltold lout sets v1 v2 v3 (v4 + 1) hf _ _ _ Z (lv_sub hl [1, 2, 3, 4, 0] rfl)
  rw [fX3_deliverToAll.eq_1] at hf
  refine lv_iconst (v := 0) X.x X.b dX3_deliverToAll_0 ki_0 ?_
  refine lv_istore_n (lv' := [(3, .int 0), (0, .ref (ad 0)), (1, .int x1), (2, .int x2)]) X.x X.b dX3_deliverToAll_1 rfl hl (Nat.le_of_ble_eq_true rfl) rfl (fun ls hl => ?_)
  refine lv_iconst (v := 0) X.x X.b dX3_deliverToAll_2 ki_0 ?_
  refine lv_istore (lv' := [(4, .int 0), (3, .int 0), (0, .ref (ad 0)), (1, .int x1), (2, .int x2)]) X.x X.b dX3_deliverToAll_3 hl (Nat.le_of_ble_eq_true rfl) rfl (fun ls hl => ?_)
  exact L5 zfuel reached lost size words needs told rea wread ltold lout sets x1 x2 0 0 hf _ _ _ Z (lv_sub hl [2, 3, 4, 1, 0] rfl)
set_option maxRecDepth 100000 in
set_option maxHeartbeats 4000000 in
theorem mX3_deliverUnread (l : Launch) (Δ : zE) (ad : Nat → Nat) (reached : Int32) (lost : Int32) (size : Int32) (plots : Nat → Int32) (cliffs : Nat → Int32) (words : Nat → Int32) (needs : Nat → Int32) (told : Nat → Int32) (rea : Nat → Int32) (wread : Nat → Int32) (ltold : Nat → Int32) (lout : Nat → Int32) (sets : Nat → Int32) (x1 : Int32) {res : Int32 × Int32 × (Nat → Int32) × (Nat → Int32) × (Nat → Int32) × (Nat → Int32) × (Nat → Int32)} (hf : fX3_deliverUnread reached size words needs told rea wread ltold lout sets x1 = some res) : zMet l Δ yX3_deliverUnread cX3_deliverUnread 4 (some .int) 4 92 [.ref (ad 0), .int x1] (wX3 Δ ad reached lost size plots cliffs words needs told rea wread ltold lout sets) (wX3 Δ ad res.2.1 lost size plots cliffs words needs res.2.2.1 res.2.2.2.1 res.2.2.2.2.1 res.2.2.2.2.2.1 res.2.2.2.2.2.2 sets) (some (.int res.1)) := by
  refine z_start (by decide +kernel) (Nat.le_of_ble_eq_true rfl) ?_
  intro p e s m args below meth c A ls X Z hl
  have hl : lv_has ls 4 [(0, .ref (ad 0)), (1, .int x1)] := hl
  have L12 : ∀ (k : Nat) (reached : Int32) (size : Int32) (words : Nat → Int32) (needs : Nat → Int32) (told : Nat → Int32) (rea : Nat → Int32) (wread : Nat → Int32) (ltold : Nat → Int32) (lout : Nat → Int32) (sets : Nat → Int32) (v1 : Int32) (v2 : Int32) (v3 : Int32), fX3_deliverUnread_12 k reached size words needs told rea wread ltold lout sets v1 v2 v3 = some res → ∀ (H : Heap) (locs : List Loc) (ls : Array Slot), zW Δ A s.heap (wX3 Δ ad reached lost size plots cliffs words needs told rea wread ltold lout sets) H locs → lv_has ls 4 [(0, .ref (ad 0)), (1, .int v1), (2, .int v2), (3, .int v3)] → W p l e { frames := 4, cells := 0, slots := 0, locals := 92 } s m args below meth c H locs 0 0 (zEnd Δ below args s 0 0 A (some (.int res.1)) (wX3 Δ ad res.2.1 lost size plots cliffs words needs res.2.2.1 res.2.2.2.1 res.2.2.2.2.1 res.2.2.2.2.2.1 res.2.2.2.2.2.2 sets)) (F0 m 12 ls []) := by
    intro k
    induction k with
    | zero =>
      intro reached size words needs told rea wread ltold lout sets v1 v2 v3 hf
      rw [fX3_deliverUnread_12.eq_1] at hf
      cases hf
    | succ k ih =>
      intro reached size words needs told rea wread ltold lout sets v1 v2 v3 hf H locs ls Z hl
      rw [fX3_deliverUnread_12.eq_2] at hf
      refine lv_iload_n X.x X.b dX3_deliverUnread_12 rfl (lv_at hl 3 rfl) ?_
      refine lv_aload_n X.x X.b dX3_deliverUnread_13 rfl (lv_at hl 0 rfl) ?_
      refine z_gf inG_X3 (ci := 3) rfl 0 (Nat.le_of_ble_eq_true rfl) rfl X Z wd_105 0 rfl (v := .ref (ad 1)) rfl dX3_deliverUnread_14 ?_
      refine z_gf inG_X4 (ci := 4) rfl 0 (Nat.le_of_ble_eq_true rfl) rfl X Z wd_57 1 rfl (v := .int size) rfl dX3_deliverUnread_17 ?_
      refine lv_icmp_ge (tgt := 48) X.x X.b dX3_deliverUnread_20 (by decide) (fun b1 => ?_) (fun b1 => ?_)
      · have hf := zif_t b1 hf
        refine lv_aload_n X.x X.b dX3_deliverUnread_48 rfl (lv_at hl 0 rfl) ?_
        refine z_gf inG_X3 (ci := 3) rfl 1 (Nat.le_of_ble_eq_true rfl) rfl X Z wd_107 0 rfl (v := .ref (ad 6)) rfl dX3_deliverUnread_49 ?_
        refine z_gf inG_X0 (ci := 0) rfl 2 (Nat.le_of_ble_eq_true rfl) rfl X Z wd_89 6 rfl (v := .ref (ad 9)) rfl dX3_deliverUnread_52 ?_
        refine lv_iload_n X.x X.b dX3_deliverUnread_55 rfl (lv_at hl 1 rfl) ?_
        obtain ⟨b2, hf⟩ := zg_in hf
        refine z_iald X Z 9 rfl b2 dX3_deliverUnread_56 ?_
        refine lv_iload_n X.x X.b dX3_deliverUnread_57 rfl (lv_at hl 2 rfl) ?_
        refine lv_isub X.x X.b dX3_deliverUnread_58 ?_
        cases hf
        exact z_iret X Z dX3_deliverUnread_59
      · have hf := zif_f b1 hf
        refine lv_aload_n X.x X.b dX3_deliverUnread_23 rfl (lv_at hl 0 rfl) ?_
        refine z_gf inG_X3 (ci := 3) rfl 1 (Nat.le_of_ble_eq_true rfl) rfl X Z wd_107 0 rfl (v := .ref (ad 6)) rfl dX3_deliverUnread_24 ?_
        refine lv_iload_n X.x X.b dX3_deliverUnread_27 rfl (lv_at hl 1 rfl) ?_
        refine lv_iload_n X.x X.b dX3_deliverUnread_28 rfl (lv_at hl 3 rfl) ?_
        obtain ⟨q1, hq1, hf⟩ := zb_ok hf
        refine z_callV X Z hl (mX0_hasRead l Δ (fun j => ad (j + 6)) told rea wread ltold lout v1 v3 hq1) wd_498 wd_424 wd_425 wd_22 wd_426 ok_X0_hasRead 0 rfl 6 rfl (w' := (wX3 Δ ad reached lost size plots cliffs words needs told rea wread ltold lout sets)) su_4 fs_4 pu_4 rfl (rest := []) rfl (Nat.le_of_ble_eq_true rfl) ⟨Nat.le_of_ble_eq_true rfl, Nat.le_of_ble_eq_true rfl⟩ ⟨Nat.zero_le _, Nat.zero_le _⟩ (st1 := [.int q1]) rfl dX3_deliverUnread_29 (fun H locs Z => ?_)
        refine lv_if_ne (tgt := 42) X.x X.b dX3_deliverUnread_32 (by decide) (fun b3 => ?_) (fun b3 => ?_)
        · have hf := zif_f b3 hf
          refine lv_iinc (v := (v3 + 1)) (lv' := [(3, .int (v3 + 1)), (0, .ref (ad 0)), (1, .int v1), (2, .int v2)]) X.x X.b dX3_deliverUnread_42 hl (k := 3) rfl (congrArg _ ki_1) (Nat.le_of_ble_eq_true rfl) rfl (fun ls hl => ?_)
          refine lv_goto (tgt := 12) X.x X.b dX3_deliverUnread_45 (by decide) ?_
          exact ih reached size words needs told rea wread ltold lout sets v1 v2 (v3 + 1) hf _ _ _ Z (lv_sub hl [1, 2, 3, 0] rfl)
        · have hf := zif_t b3 hf
          refine lv_aload_n X.x X.b dX3_deliverUnread_35 rfl (lv_at hl 0 rfl) ?_
          refine lv_iload_n X.x X.b dX3_deliverUnread_36 rfl (lv_at hl 1 rfl) ?_
          refine lv_iload_n X.x X.b dX3_deliverUnread_37 rfl (lv_at hl 3 rfl) ?_
          obtain ⟨q2, hq2, hf⟩ := zb_ok hf
          refine z_callV X Z hl (mX3_deliver l Δ ad reached lost size plots cliffs words needs told rea wread ltold lout sets v1 v3 hq2) wd_499 wd_458 wd_459 wd_20 wd_460 ok_X3_deliver 3 rfl 0 rfl (w' := (wX3 Δ ad q2.2.1 lost size plots cliffs words needs q2.2.2.1 q2.2.2.2.1 q2.2.2.2.2.1 q2.2.2.2.2.2.1 q2.2.2.2.2.2.2 sets)) su_6 fs_6 pu_6 rfl (rest := []) rfl (Nat.le_of_ble_eq_true rfl) ⟨Nat.le_of_ble_eq_true rfl, Nat.le_of_ble_eq_true rfl⟩ ⟨Nat.zero_le _, Nat.zero_le _⟩ (st1 := [.int q2.1]) rfl dX3_deliverUnread_38 (fun H locs Z => ?_)
          refine lv_pop X.x X.b dX3_deliverUnread_41 rfl ?_
          refine lv_iinc (v := (v3 + 1)) (lv' := [(3, .int (v3 + 1)), (0, .ref (ad 0)), (1, .int v1), (2, .int v2)]) X.x X.b dX3_deliverUnread_42 hl (k := 3) rfl (congrArg _ ki_1) (Nat.le_of_ble_eq_true rfl) rfl (fun ls hl => ?_)
          refine lv_goto (tgt := 12) X.x X.b dX3_deliverUnread_45 (by decide) ?_
          exact ih q2.2.1 size words needs q2.2.2.1 q2.2.2.2.1 q2.2.2.2.2.1 q2.2.2.2.2.2.1 q2.2.2.2.2.2.2 sets v1 v2 (v3 + 1) hf _ _ _ Z (lv_sub hl [1, 2, 3, 0] rfl)
  rw [fX3_deliverUnread.eq_1] at hf
  refine lv_aload_n X.x X.b dX3_deliverUnread_0 rfl (lv_at hl 0 rfl) ?_
  refine z_gf inG_X3 (ci := 3) rfl 1 (Nat.le_of_ble_eq_true rfl) rfl X Z wd_107 0 rfl (v := .ref (ad 6)) rfl dX3_deliverUnread_1 ?_
  refine z_gf inG_X0 (ci := 0) rfl 2 (Nat.le_of_ble_eq_true rfl) rfl X Z wd_89 6 rfl (v := .ref (ad 9)) rfl dX3_deliverUnread_4 ?_
  refine lv_iload_n X.x X.b dX3_deliverUnread_7 rfl (lv_at hl 1 rfl) ?_
  obtain ⟨b1, hf⟩ := zg_in hf
  refine z_iald X Z 9 rfl b1 dX3_deliverUnread_8 ?_
  refine lv_istore_n (lv' := [(2, .int (wread x1.toNatClampNeg)), (0, .ref (ad 0)), (1, .int x1)]) X.x X.b dX3_deliverUnread_9 rfl hl (Nat.le_of_ble_eq_true rfl) rfl (fun ls hl => ?_)
  refine lv_iconst (v := 0) X.x X.b dX3_deliverUnread_10 ki_0 ?_
  refine lv_istore_n (lv' := [(3, .int 0), (2, .int (wread x1.toNatClampNeg)), (0, .ref (ad 0)), (1, .int x1)]) X.x X.b dX3_deliverUnread_11 rfl hl (Nat.le_of_ble_eq_true rfl) rfl (fun ls hl => ?_)
  exact L12 zfuel reached size words needs told rea wread ltold lout sets x1 (wread x1.toNatClampNeg) 0 hf _ _ _ Z (lv_sub hl [2, 3, 1, 0] rfl)
set_option maxRecDepth 100000 in
set_option maxHeartbeats 4000000 in
theorem mX4_howManyNeed (l : Launch) (Δ : zE) (ad : Nat → Nat) (size : Int32) (plots : Nat → Int32) (cliffs : Nat → Int32) (words : Nat → Int32) (needs : Nat → Int32) (x1 : Int32) {res : Int32} (hf : fX4_howManyNeed size needs x1 = some res) : zMet l Δ yX4_howManyNeed cX4_howManyNeed 4 (some .int) 0 0 [.ref (ad 0), .int x1] (wX4 Δ ad size plots cliffs words needs) (wX4 Δ ad size plots cliffs words needs) (some (.int res)) := by
  refine z_start (by decide +kernel) (Nat.le_of_ble_eq_true rfl) ?_
  intro p e s m args below meth c A ls X Z hl
  have hl : lv_has ls 4 [(0, .ref (ad 0)), (1, .int x1)] := hl
  have L6 : ∀ (k : Nat) (size : Int32) (needs : Nat → Int32) (v1 : Int32) (v2 : Int32) (v3 : Int32), fX4_howManyNeed_6 k size needs v1 v2 v3 = some res → ∀ (H : Heap) (locs : List Loc) (ls : Array Slot), zW Δ A s.heap (wX4 Δ ad size plots cliffs words needs) H locs → lv_has ls 4 [(0, .ref (ad 0)), (1, .int v1), (2, .int v2), (3, .int v3)] → W p l e { frames := 0, cells := 0, slots := 0, locals := 0 } s m args below meth c H locs 0 0 (zEnd Δ below args s 0 0 A (some (.int res)) (wX4 Δ ad size plots cliffs words needs)) (F0 m 6 ls []) := by
    intro k
    induction k with
    | zero =>
      intro size needs v1 v2 v3 hf
      rw [fX4_howManyNeed_6.eq_1] at hf
      cases hf
    | succ k ih =>
      intro size needs v1 v2 v3 hf H locs ls Z hl
      rw [fX4_howManyNeed_6.eq_2] at hf
      refine lv_iload_n X.x X.b dX4_howManyNeed_6 rfl (lv_at hl 3 rfl) ?_
      refine lv_aload_n X.x X.b dX4_howManyNeed_7 rfl (lv_at hl 0 rfl) ?_
      refine z_gf inG_X4 (ci := 4) rfl 0 (Nat.le_of_ble_eq_true rfl) rfl X Z wd_55 0 rfl (v := .int size) rfl dX4_howManyNeed_8 ?_
      refine lv_icmp_ge (tgt := 33) X.x X.b dX4_howManyNeed_11 (by decide) (fun b1 => ?_) (fun b1 => ?_)
      · have hf := zif_t b1 hf
        refine lv_iload_n X.x X.b dX4_howManyNeed_33 rfl (lv_at hl 2 rfl) ?_
        cases hf
        exact z_iret X Z dX4_howManyNeed_34
      · have hf := zif_f b1 hf
        refine lv_iload_n X.x X.b dX4_howManyNeed_14 rfl (lv_at hl 2 rfl) ?_
        refine lv_aload_n X.x X.b dX4_howManyNeed_15 rfl (lv_at hl 0 rfl) ?_
        refine z_gf inG_X4 (ci := 4) rfl 4 (Nat.le_of_ble_eq_true rfl) rfl X Z wd_64 0 rfl (v := .ref (ad 4)) rfl dX4_howManyNeed_16 ?_
        refine lv_iload_n X.x X.b dX4_howManyNeed_19 rfl (lv_at hl 3 rfl) ?_
        obtain ⟨b2, hf⟩ := zg_in hf
        refine z_iald X Z 4 rfl b2 dX4_howManyNeed_20 ?_
        refine lv_iload_n X.x X.b dX4_howManyNeed_21 rfl (lv_at hl 1 rfl) ?_
        refine lv_ishr X.x X.b dX4_howManyNeed_22 ?_
        refine lv_iconst (v := 1) X.x X.b dX4_howManyNeed_23 ki_1 ?_
        refine lv_iand X.x X.b dX4_howManyNeed_24 ?_
        refine lv_iadd X.x X.b dX4_howManyNeed_25 ?_
        refine lv_istore_n (lv' := [(2, .int (v2 + (((needs v3.toNatClampNeg) >>> (v1 &&& 31)) &&& 1))), (0, .ref (ad 0)), (1, .int v1), (3, .int v3)]) X.x X.b dX4_howManyNeed_26 rfl hl (Nat.le_of_ble_eq_true rfl) rfl (fun ls hl => ?_)
        refine lv_iinc (v := (v3 + 1)) (lv' := [(3, .int (v3 + 1)), (2, .int (v2 + (((needs v3.toNatClampNeg) >>> (v1 &&& 31)) &&& 1))), (0, .ref (ad 0)), (1, .int v1)]) X.x X.b dX4_howManyNeed_27 hl (k := 3) rfl (congrArg _ ki_1) (Nat.le_of_ble_eq_true rfl) rfl (fun ls hl => ?_)
        refine lv_goto (tgt := 6) X.x X.b dX4_howManyNeed_30 (by decide) ?_
        exact ih size needs v1 (v2 + (((needs v3.toNatClampNeg) >>> (v1 &&& 31)) &&& 1)) (v3 + 1) hf _ _ _ Z (lv_sub hl [2, 3, 1, 0] rfl)
  rw [fX4_howManyNeed.eq_1] at hf
  refine lv_iconst (v := 0) X.x X.b dX4_howManyNeed_0 ki_0 ?_
  refine lv_istore_n (lv' := [(2, .int 0), (0, .ref (ad 0)), (1, .int x1)]) X.x X.b dX4_howManyNeed_1 rfl hl (Nat.le_of_ble_eq_true rfl) rfl (fun ls hl => ?_)
  refine lv_iload_n X.x X.b dX4_howManyNeed_2 rfl (lv_at hl 2 rfl) ?_
  refine lv_iconst (v := 1) X.x X.b dX4_howManyNeed_3 ki_1 ?_
  refine lv_iadd X.x X.b dX4_howManyNeed_4 ?_
  refine lv_istore_n (lv' := [(3, .int (x1 + 1)), (2, .int 0), (0, .ref (ad 0)), (1, .int x1)]) X.x X.b dX4_howManyNeed_5 rfl hl (Nat.le_of_ble_eq_true rfl) rfl (fun ls hl => ?_)
  exact L6 zfuel size needs x1 0 (x1 + 1) hf _ _ _ Z (lv_sub hl [2, 3, 1, 0] rfl)
set_option maxRecDepth 100000 in
set_option maxHeartbeats 4000000 in
theorem mX4_everyPart (l : Launch) (Δ : zE) (ad : Nat → Nat) (size : Int32) (plots : Nat → Int32) (cliffs : Nat → Int32) (words : Nat → Int32) (needs : Nat → Int32)  {res : Int32} (hf : fX4_everyPart size = some res) : zMet l Δ yX4_everyPart cX4_everyPart 1 (some .int) 0 0 [.ref (ad 0)] (wX4 Δ ad size plots cliffs words needs) (wX4 Δ ad size plots cliffs words needs) (some (.int res)) := by
  refine z_start (by decide +kernel) (Nat.le_of_ble_eq_true rfl) ?_
  intro p e s m args below meth c A ls X Z hl
  have hl : lv_has ls 1 [(0, .ref (ad 0))] := hl
  rw [fX4_everyPart.eq_1] at hf
  refine lv_iconst (v := 1) X.x X.b dX4_everyPart_0 ki_1 ?_
  refine lv_aload_n X.x X.b dX4_everyPart_1 rfl (lv_at hl 0 rfl) ?_
  refine z_gf inG_X4 (ci := 4) rfl 0 (Nat.le_of_ble_eq_true rfl) rfl X Z wd_55 0 rfl (v := .int size) rfl dX4_everyPart_2 ?_
  refine lv_ishl X.x X.b dX4_everyPart_5 ?_
  refine lv_iconst (v := 1) X.x X.b dX4_everyPart_6 ki_1 ?_
  refine lv_isub X.x X.b dX4_everyPart_7 ?_
  cases hf
  exact z_iret X Z dX4_everyPart_8
set_option maxRecDepth 100000 in
set_option maxHeartbeats 4000000 in
theorem mX3_ofPart (l : Launch) (Δ : zE) (ad : Nat → Nat) (reached : Int32) (lost : Int32) (size : Int32) (plots : Nat → Int32) (cliffs : Nat → Int32) (words : Nat → Int32) (needs : Nat → Int32) (told : Nat → Int32) (rea : Nat → Int32) (wread : Nat → Int32) (ltold : Nat → Int32) (lout : Nat → Int32) (sets : Nat → Int32) (x1 : Int32) (x2 : Int32) {res : Int32} (hf : fX3_ofPart size plots cliffs words needs rea x1 x2 = some res) : zMet l Δ yX3_ofPart cX3_ofPart 3 (some .int) 3 66 [.ref (ad 0), .int x1, .int x2] (wX3 Δ ad reached lost size plots cliffs words needs told rea wread ltold lout sets) (wX3 Δ ad reached lost size plots cliffs words needs told rea wread ltold lout sets) (some (.int res)) := by
  refine z_start (by decide +kernel) (Nat.le_of_ble_eq_true rfl) ?_
  intro p e s m args below meth c A ls X Z hl
  have hl : lv_has ls 3 [(0, .ref (ad 0)), (1, .int x1), (2, .int x2)] := hl
  rw [fX3_ofPart.eq_1] at hf
  refine lv_iload_n X.x X.b dX3_ofPart_0 rfl (lv_at hl 2 rfl) ?_
  by_cases b1 : x2 = 0
  · have hf := zif_t b1 hf
    refine lv_tableIn (tgt := 40) X.x X.b dX3_ofPart_1 (zt_lo b1 (by decide)) (zt_hi b1 (by decide)) (zt_at (off := 39) b1 rfl) (by decide) ?_
    refine lv_aload_n X.x X.b dX3_ofPart_40 rfl (lv_at hl 0 rfl) ?_
    refine z_gf inG_X3 (ci := 3) rfl 0 (Nat.le_of_ble_eq_true rfl) rfl X Z wd_105 0 rfl (v := .ref (ad 1)) rfl dX3_ofPart_41 ?_
    refine z_gf inG_X4 (ci := 4) rfl 1 (Nat.le_of_ble_eq_true rfl) rfl X Z wd_59 1 rfl (v := .ref (ad 2)) rfl dX3_ofPart_44 ?_
    refine lv_iload_n X.x X.b dX3_ofPart_47 rfl (lv_at hl 1 rfl) ?_
    obtain ⟨b2, hf⟩ := zg_in hf
    refine z_iald X Z 2 rfl b2 dX3_ofPart_48 ?_
    cases hf
    exact z_iret X Z dX3_ofPart_49
  · have hf := zif_f b1 hf
    by_cases b3 : x2 = 1
    · have hf := zif_t b3 hf
      refine lv_tableIn (tgt := 50) X.x X.b dX3_ofPart_1 (zt_lo b3 (by decide)) (zt_hi b3 (by decide)) (zt_at (off := 49) b3 rfl) (by decide) ?_
      refine lv_aload_n X.x X.b dX3_ofPart_50 rfl (lv_at hl 0 rfl) ?_
      refine z_gf inG_X3 (ci := 3) rfl 0 (Nat.le_of_ble_eq_true rfl) rfl X Z wd_105 0 rfl (v := .ref (ad 1)) rfl dX3_ofPart_51 ?_
      refine z_gf inG_X4 (ci := 4) rfl 2 (Nat.le_of_ble_eq_true rfl) rfl X Z wd_61 1 rfl (v := .ref (ad 3)) rfl dX3_ofPart_54 ?_
      refine lv_iload_n X.x X.b dX3_ofPart_57 rfl (lv_at hl 1 rfl) ?_
      obtain ⟨b4, hf⟩ := zg_in hf
      refine z_iald X Z 3 rfl b4 dX3_ofPart_58 ?_
      cases hf
      exact z_iret X Z dX3_ofPart_59
    · have hf := zif_f b3 hf
      by_cases b5 : x2 = 2
      · have hf := zif_t b5 hf
        refine lv_tableIn (tgt := 60) X.x X.b dX3_ofPart_1 (zt_lo b5 (by decide)) (zt_hi b5 (by decide)) (zt_at (off := 59) b5 rfl) (by decide) ?_
        refine lv_aload_n X.x X.b dX3_ofPart_60 rfl (lv_at hl 0 rfl) ?_
        refine z_gf inG_X3 (ci := 3) rfl 0 (Nat.le_of_ble_eq_true rfl) rfl X Z wd_105 0 rfl (v := .ref (ad 1)) rfl dX3_ofPart_61 ?_
        refine z_gf inG_X4 (ci := 4) rfl 3 (Nat.le_of_ble_eq_true rfl) rfl X Z wd_63 1 rfl (v := .ref (ad 4)) rfl dX3_ofPart_64 ?_
        refine lv_iload_n X.x X.b dX3_ofPart_67 rfl (lv_at hl 1 rfl) ?_
        obtain ⟨b6, hf⟩ := zg_in hf
        refine z_iald X Z 4 rfl b6 dX3_ofPart_68 ?_
        cases hf
        exact z_iret X Z dX3_ofPart_69
      · have hf := zif_f b5 hf
        by_cases b7 : x2 = 3
        · have hf := zif_t b7 hf
          refine lv_tableIn (tgt := 70) X.x X.b dX3_ofPart_1 (zt_lo b7 (by decide)) (zt_hi b7 (by decide)) (zt_at (off := 69) b7 rfl) (by decide) ?_
          refine lv_aload_n X.x X.b dX3_ofPart_70 rfl (lv_at hl 0 rfl) ?_
          refine z_gf inG_X3 (ci := 3) rfl 0 (Nat.le_of_ble_eq_true rfl) rfl X Z wd_105 0 rfl (v := .ref (ad 1)) rfl dX3_ofPart_71 ?_
          refine z_gf inG_X4 (ci := 4) rfl 4 (Nat.le_of_ble_eq_true rfl) rfl X Z wd_65 1 rfl (v := .ref (ad 5)) rfl dX3_ofPart_74 ?_
          refine lv_iload_n X.x X.b dX3_ofPart_77 rfl (lv_at hl 1 rfl) ?_
          obtain ⟨b8, hf⟩ := zg_in hf
          refine z_iald X Z 5 rfl b8 dX3_ofPart_78 ?_
          cases hf
          exact z_iret X Z dX3_ofPart_79
        · have hf := zif_f b7 hf
          by_cases b9 : x2 = 4
          · have hf := zif_t b9 hf
            refine lv_tableIn (tgt := 80) X.x X.b dX3_ofPart_1 (zt_lo b9 (by decide)) (zt_hi b9 (by decide)) (zt_at (off := 79) b9 rfl) (by decide) ?_
            refine lv_aload_n X.x X.b dX3_ofPart_80 rfl (lv_at hl 0 rfl) ?_
            refine z_gf inG_X3 (ci := 3) rfl 0 (Nat.le_of_ble_eq_true rfl) rfl X Z wd_105 0 rfl (v := .ref (ad 1)) rfl dX3_ofPart_81 ?_
            refine lv_iload_n X.x X.b dX3_ofPart_84 rfl (lv_at hl 1 rfl) ?_
            obtain ⟨q1, hq1, hf⟩ := zb_ok hf
            refine z_callV X Z hl (mX4_howManyNeed l Δ (fun j => ad (j + 1)) size plots cliffs words needs x1 hq1) wd_592 wd_593 wd_594 wd_21 wd_595 ok_X4_howManyNeed 4 rfl 1 rfl (w' := (wX3 Δ ad reached lost size plots cliffs words needs told rea wread ltold lout sets)) su_5 fs_5 pu_5 rfl (rest := []) rfl (Nat.le_of_ble_eq_true rfl) ⟨Nat.le_of_ble_eq_true rfl, Nat.le_of_ble_eq_true rfl⟩ ⟨Nat.zero_le _, Nat.zero_le _⟩ (st1 := [.int q1]) rfl dX3_ofPart_85 (fun H locs Z => ?_)
            cases hf
            exact z_iret X Z dX3_ofPart_88
          · have hf := zif_f b9 hf
            by_cases b10 : x2 = 5
            · have hf := zif_t b10 hf
              refine lv_tableIn (tgt := 89) X.x X.b dX3_ofPart_1 (zt_lo b10 (by decide)) (zt_hi b10 (by decide)) (zt_at (off := 88) b10 rfl) (by decide) ?_
              refine lv_aload_n X.x X.b dX3_ofPart_89 rfl (lv_at hl 0 rfl) ?_
              refine z_gf inG_X3 (ci := 3) rfl 1 (Nat.le_of_ble_eq_true rfl) rfl X Z wd_107 0 rfl (v := .ref (ad 6)) rfl dX3_ofPart_90 ?_
              refine lv_iload_n X.x X.b dX3_ofPart_93 rfl (lv_at hl 1 rfl) ?_
              obtain ⟨q2, hq2, hf⟩ := zb_ok hf
              refine z_callV X Z hl (mX0_whoRead l Δ (fun j => ad (j + 6)) told rea wread ltold lout x1 hq2) wd_596 wd_420 wd_421 wd_22 wd_422 ok_X0_whoRead 0 rfl 6 rfl (w' := (wX3 Δ ad reached lost size plots cliffs words needs told rea wread ltold lout sets)) su_4 fs_4 pu_4 rfl (rest := []) rfl (Nat.le_of_ble_eq_true rfl) ⟨Nat.le_of_ble_eq_true rfl, Nat.le_of_ble_eq_true rfl⟩ ⟨Nat.zero_le _, Nat.zero_le _⟩ (st1 := [.int q2]) rfl dX3_ofPart_94 (fun H locs Z => ?_)
              cases hf
              exact z_iret X Z dX3_ofPart_97
            · have hf := zif_f b10 hf
              refine lv_tableOut (tgt := 98) X.x X.b dX3_ofPart_1 (by have := (x2 : Int32).toInt; have := zt_ne (n := 0) b1 (by decide); have := zt_ne (n := 1) b3 (by decide); have := zt_ne (n := 2) b5 (by decide); have := zt_ne (n := 3) b7 (by decide); have := zt_ne (n := 4) b9 (by decide); have := zt_ne (n := 5) b10 (by decide); omega) (by decide) ?_
              refine lv_aload_n X.x X.b dX3_ofPart_98 rfl (lv_at hl 0 rfl) ?_
              refine z_gf inG_X3 (ci := 3) rfl 0 (Nat.le_of_ble_eq_true rfl) rfl X Z wd_105 0 rfl (v := .ref (ad 1)) rfl dX3_ofPart_99 ?_
              refine lv_iload_n X.x X.b dX3_ofPart_102 rfl (lv_at hl 1 rfl) ?_
              refine lv_aload_n X.x X.b dX3_ofPart_103 rfl (lv_at hl 0 rfl) ?_
              refine z_gf inG_X3 (ci := 3) rfl 0 (Nat.le_of_ble_eq_true rfl) rfl X Z wd_105 0 rfl (v := .ref (ad 1)) rfl dX3_ofPart_104 ?_
              obtain ⟨q3, hq3, hf⟩ := zb_ok hf
              refine z_callV X Z hl (mX4_everyPart l Δ (fun j => ad (j + 1)) size plots cliffs words needs hq3) wd_329 wd_330 wd_331 wd_21 wd_332 ok_X4_everyPart 4 rfl 1 rfl (w' := (wX3 Δ ad reached lost size plots cliffs words needs told rea wread ltold lout sets)) su_5 fs_5 pu_5 rfl (rest := [.int x1, .ref (ad 1)]) rfl (Nat.le_of_ble_eq_true rfl) ⟨Nat.le_of_ble_eq_true rfl, Nat.le_of_ble_eq_true rfl⟩ ⟨Nat.zero_le _, Nat.zero_le _⟩ (st1 := [.int q3, .int x1, .ref (ad 1)]) rfl dX3_ofPart_107 (fun H locs Z => ?_)
              obtain ⟨q4, hq4, hf⟩ := zb_ok hf
              refine z_callV X Z hl (mX4_allNeeds l Δ (fun j => ad (j + 1)) size plots cliffs words needs x1 q3 hq4) wd_466 wd_467 wd_468 wd_21 wd_469 ok_X4_allNeeds 4 rfl 1 rfl (w' := (wX3 Δ ad reached lost size plots cliffs words needs told rea wread ltold lout sets)) su_5 fs_5 pu_5 rfl (rest := []) rfl (Nat.le_of_ble_eq_true rfl) ⟨Nat.le_of_ble_eq_true rfl, Nat.le_of_ble_eq_true rfl⟩ ⟨Nat.zero_le _, Nat.zero_le _⟩ (st1 := [.int q4]) rfl dX3_ofPart_110 (fun H locs Z => ?_)
              obtain ⟨q5, hq5, hf⟩ := zb_ok hf
              refine z_callS X Z hl (mJ6_bitCount_0f7a4 l Δ  q4 hq5) wd_475 wd_429 wd_33 wd_430 ok_J6_bitCount_0f7a4 (w' := (wX3 Δ ad reached lost size plots cliffs words needs told rea wread ltold lout sets)) zSub_nil rfl zput_nil rfl (rest := []) rfl (Nat.le_of_ble_eq_true rfl) ⟨Nat.le_of_ble_eq_true rfl, Nat.le_of_ble_eq_true rfl⟩ ⟨Nat.zero_le _, Nat.zero_le _⟩ (st1 := [.int q5]) rfl dX3_ofPart_113 (fun H locs Z => ?_)
              cases hf
              exact z_iret X Z dX3_ofPart_116
set_option maxRecDepth 100000 in
set_option maxHeartbeats 4000000 in
theorem mX4_openCliffs (l : Launch) (Δ : zE) (ad : Nat → Nat) (size : Int32) (plots : Nat → Int32) (cliffs : Nat → Int32) (words : Nat → Int32) (needs : Nat → Int32) (x1 : Int32) {res : Int32} (hf : fX4_openCliffs size plots cliffs x1 = some res) : zMet l Δ yX4_openCliffs cX4_openCliffs 5 (some .int) 1 21 [.ref (ad 0), .int x1] (wX4 Δ ad size plots cliffs words needs) (wX4 Δ ad size plots cliffs words needs) (some (.int res)) := by
  refine z_start (by decide +kernel) (Nat.le_of_ble_eq_true rfl) ?_
  intro p e s m args below meth c A ls X Z hl
  have hl : lv_has ls 5 [(0, .ref (ad 0)), (1, .int x1)] := hl
  have L12 : ∀ (k : Nat) (size : Int32) (plots : Nat → Int32) (cliffs : Nat → Int32) (v1 : Int32) (v2 : Int32) (v3 : Int32) (v4 : Int32), fX4_openCliffs_12 k size plots cliffs v1 v2 v3 v4 = some res → ∀ (H : Heap) (locs : List Loc) (ls : Array Slot), zW Δ A s.heap (wX4 Δ ad size plots cliffs words needs) H locs → lv_has ls 5 [(0, .ref (ad 0)), (1, .int v1), (2, .int v2), (3, .int v3), (4, .int v4)] → W p l e { frames := 1, cells := 0, slots := 0, locals := 21 } s m args below meth c H locs 0 0 (zEnd Δ below args s 0 0 A (some (.int res)) (wX4 Δ ad size plots cliffs words needs)) (F0 m 12 ls []) := by
    intro k
    induction k with
    | zero =>
      intro size plots cliffs v1 v2 v3 v4 hf
      rw [fX4_openCliffs_12.eq_1] at hf
      cases hf
    | succ k ih =>
      intro size plots cliffs v1 v2 v3 v4 hf H locs ls Z hl
      rw [fX4_openCliffs_12.eq_2] at hf
      refine lv_iload X.x X.b dX4_openCliffs_12 (lv_at hl 4 rfl) ?_
      refine lv_if_lt (tgt := 79) X.x X.b dX4_openCliffs_14 (by decide) (fun b1 => ?_) (fun b1 => ?_)
      · have hf := zif_t b1 hf
        refine lv_iload_n X.x X.b dX4_openCliffs_79 rfl (lv_at hl 2 rfl) ?_
        cases hf
        exact z_iret X Z dX4_openCliffs_80
      · have hf := zif_f b1 hf
        refine lv_iload_n X.x X.b dX4_openCliffs_17 rfl (lv_at hl 1 rfl) ?_
        refine lv_iload X.x X.b dX4_openCliffs_18 (lv_at hl 4 rfl) ?_
        obtain ⟨q1, hq1, hf⟩ := zb_ok hf
        refine z_callSN (host := "SerialRecaps") X Z hl (mX6_isIn l Δ  v1 v4 hq1) (by decide +kernel) wd_367 wd_19 wd_368 ok_X6_isIn (w' := (wX4 Δ ad size plots cliffs words needs)) zSub_nil rfl zput_nil rfl (rest := []) rfl (Nat.le_of_ble_eq_true rfl) ⟨Nat.le_of_ble_eq_true rfl, Nat.le_of_ble_eq_true rfl⟩ ⟨Nat.zero_le _, Nat.zero_le _⟩ (st1 := [.int q1]) rfl dX4_openCliffs_20 (fun H locs Z => ?_)
        refine lv_if_eq (tgt := 73) X.x X.b dX4_openCliffs_23 (by decide) (fun b2 => ?_) (fun b2 => ?_)
        · have hf := zif_t b2 hf
          refine lv_iinc (v := (v4 + (-1))) (lv' := [(4, .int (v4 + (-1))), (0, .ref (ad 0)), (1, .int v1), (2, .int v2), (3, .int v3)]) X.x X.b dX4_openCliffs_73 hl (k := 4) rfl (congrArg _ ki_m1) (Nat.le_of_ble_eq_true rfl) rfl (fun ls hl => ?_)
          refine lv_goto (tgt := 12) X.x X.b dX4_openCliffs_76 (by decide) ?_
          exact ih size plots cliffs v1 v2 v3 (v4 + (-1)) hf _ _ _ Z (lv_sub hl [1, 2, 3, 4, 0] rfl)
        · have hf := zif_f b2 hf
          refine lv_aload_n X.x X.b dX4_openCliffs_26 rfl (lv_at hl 0 rfl) ?_
          refine z_gf inG_X4 (ci := 4) rfl 2 (Nat.le_of_ble_eq_true rfl) rfl X Z wd_60 0 rfl (v := .ref (ad 2)) rfl dX4_openCliffs_27 ?_
          refine lv_iload X.x X.b dX4_openCliffs_30 (lv_at hl 4 rfl) ?_
          obtain ⟨b3, hf⟩ := zg_in hf
          refine z_iald X Z 2 rfl b3 dX4_openCliffs_32 ?_
          refine lv_iconst (v := (-1)) X.x X.b dX4_openCliffs_33 ki_m1 ?_
          refine lv_icmp_eq (tgt := 63) X.x X.b dX4_openCliffs_34 (by decide) (fun b4 => ?_) (fun b4 => ?_)
          · have hf := zif_t b4 hf
            refine lv_iload_n X.x X.b dX4_openCliffs_63 rfl (lv_at hl 3 rfl) ?_
            refine lv_aload_n X.x X.b dX4_openCliffs_64 rfl (lv_at hl 0 rfl) ?_
            refine z_gf inG_X4 (ci := 4) rfl 1 (Nat.le_of_ble_eq_true rfl) rfl X Z wd_58 0 rfl (v := .ref (ad 1)) rfl dX4_openCliffs_65 ?_
            refine lv_iload X.x X.b dX4_openCliffs_68 (lv_at hl 4 rfl) ?_
            obtain ⟨b5, hf⟩ := zg_in hf
            refine z_iald X Z 1 rfl b5 dX4_openCliffs_70 ?_
            refine lv_ior X.x X.b dX4_openCliffs_71 ?_
            refine lv_istore_n (lv' := [(3, .int (v3 ||| (plots v4.toNatClampNeg))), (0, .ref (ad 0)), (1, .int v1), (2, .int v2), (4, .int v4)]) X.x X.b dX4_openCliffs_72 rfl hl (Nat.le_of_ble_eq_true rfl) rfl (fun ls hl => ?_)
            refine lv_iinc (v := (v4 + (-1))) (lv' := [(4, .int (v4 + (-1))), (3, .int (v3 ||| (plots v4.toNatClampNeg))), (0, .ref (ad 0)), (1, .int v1), (2, .int v2)]) X.x X.b dX4_openCliffs_73 hl (k := 4) rfl (congrArg _ ki_m1) (Nat.le_of_ble_eq_true rfl) rfl (fun ls hl => ?_)
            refine lv_goto (tgt := 12) X.x X.b dX4_openCliffs_76 (by decide) ?_
            exact ih size plots cliffs v1 v2 (v3 ||| (plots v4.toNatClampNeg)) (v4 + (-1)) hf _ _ _ Z (lv_sub hl [2, 3, 4, 1, 0] rfl)
          · have hf := zif_f b4 hf
            refine lv_iload_n X.x X.b dX4_openCliffs_37 rfl (lv_at hl 3 rfl) ?_
            refine lv_aload_n X.x X.b dX4_openCliffs_38 rfl (lv_at hl 0 rfl) ?_
            refine z_gf inG_X4 (ci := 4) rfl 2 (Nat.le_of_ble_eq_true rfl) rfl X Z wd_60 0 rfl (v := .ref (ad 2)) rfl dX4_openCliffs_39 ?_
            refine lv_iload X.x X.b dX4_openCliffs_42 (lv_at hl 4 rfl) ?_
            obtain ⟨b6, hf⟩ := zg_in hf
            refine z_iald X Z 2 rfl b6 dX4_openCliffs_44 ?_
            obtain ⟨q2, hq2, hf⟩ := zb_ok hf
            refine z_callSN (host := "SerialRecaps") X Z hl (mX6_isIn l Δ  v3 (cliffs v4.toNatClampNeg) hq2) (by decide +kernel) wd_367 wd_19 wd_368 ok_X6_isIn (w' := (wX4 Δ ad size plots cliffs words needs)) zSub_nil rfl zput_nil rfl (rest := []) rfl (Nat.le_of_ble_eq_true rfl) ⟨Nat.le_of_ble_eq_true rfl, Nat.le_of_ble_eq_true rfl⟩ ⟨Nat.zero_le _, Nat.zero_le _⟩ (st1 := [.int q2]) rfl dX4_openCliffs_45 (fun H locs Z => ?_)
            refine lv_if_ne (tgt := 63) X.x X.b dX4_openCliffs_48 (by decide) (fun b7 => ?_) (fun b7 => ?_)
            · have hf := zif_f b7 hf
              refine lv_iload_n X.x X.b dX4_openCliffs_63 rfl (lv_at hl 3 rfl) ?_
              refine lv_aload_n X.x X.b dX4_openCliffs_64 rfl (lv_at hl 0 rfl) ?_
              refine z_gf inG_X4 (ci := 4) rfl 1 (Nat.le_of_ble_eq_true rfl) rfl X Z wd_58 0 rfl (v := .ref (ad 1)) rfl dX4_openCliffs_65 ?_
              refine lv_iload X.x X.b dX4_openCliffs_68 (lv_at hl 4 rfl) ?_
              obtain ⟨b8, hf⟩ := zg_in hf
              refine z_iald X Z 1 rfl b8 dX4_openCliffs_70 ?_
              refine lv_ior X.x X.b dX4_openCliffs_71 ?_
              refine lv_istore_n (lv' := [(3, .int (v3 ||| (plots v4.toNatClampNeg))), (0, .ref (ad 0)), (1, .int v1), (2, .int v2), (4, .int v4)]) X.x X.b dX4_openCliffs_72 rfl hl (Nat.le_of_ble_eq_true rfl) rfl (fun ls hl => ?_)
              refine lv_iinc (v := (v4 + (-1))) (lv' := [(4, .int (v4 + (-1))), (3, .int (v3 ||| (plots v4.toNatClampNeg))), (0, .ref (ad 0)), (1, .int v1), (2, .int v2)]) X.x X.b dX4_openCliffs_73 hl (k := 4) rfl (congrArg _ ki_m1) (Nat.le_of_ble_eq_true rfl) rfl (fun ls hl => ?_)
              refine lv_goto (tgt := 12) X.x X.b dX4_openCliffs_76 (by decide) ?_
              exact ih size plots cliffs v1 v2 (v3 ||| (plots v4.toNatClampNeg)) (v4 + (-1)) hf _ _ _ Z (lv_sub hl [2, 3, 4, 1, 0] rfl)
            · have hf := zif_t b7 hf
              refine lv_iload_n X.x X.b dX4_openCliffs_51 rfl (lv_at hl 2 rfl) ?_
              refine lv_iconst (v := 1) X.x X.b dX4_openCliffs_52 ki_1 ?_
              refine lv_aload_n X.x X.b dX4_openCliffs_53 rfl (lv_at hl 0 rfl) ?_
              refine z_gf inG_X4 (ci := 4) rfl 2 (Nat.le_of_ble_eq_true rfl) rfl X Z wd_60 0 rfl (v := .ref (ad 2)) rfl dX4_openCliffs_54 ?_
              refine lv_iload X.x X.b dX4_openCliffs_57 (lv_at hl 4 rfl) ?_
              obtain ⟨b9, hf⟩ := zg_in hf
              refine z_iald X Z 2 rfl b9 dX4_openCliffs_59 ?_
              refine lv_ishl X.x X.b dX4_openCliffs_60 ?_
              refine lv_ior X.x X.b dX4_openCliffs_61 ?_
              refine lv_istore_n (lv' := [(2, .int (v2 ||| ((1 : Int32) <<< ((cliffs v4.toNatClampNeg) &&& 31)))), (0, .ref (ad 0)), (1, .int v1), (3, .int v3), (4, .int v4)]) X.x X.b dX4_openCliffs_62 rfl hl (Nat.le_of_ble_eq_true rfl) rfl (fun ls hl => ?_)
              refine lv_iload_n X.x X.b dX4_openCliffs_63 rfl (lv_at hl 3 rfl) ?_
              refine lv_aload_n X.x X.b dX4_openCliffs_64 rfl (lv_at hl 1 rfl) ?_
              refine z_gf inG_X4 (ci := 4) rfl 1 (Nat.le_of_ble_eq_true rfl) rfl X Z wd_58 0 rfl (v := .ref (ad 1)) rfl dX4_openCliffs_65 ?_
              refine lv_iload X.x X.b dX4_openCliffs_68 (lv_at hl 4 rfl) ?_
              obtain ⟨b10, hf⟩ := zg_in hf
              refine z_iald X Z 1 rfl b10 dX4_openCliffs_70 ?_
              refine lv_ior X.x X.b dX4_openCliffs_71 ?_
              refine lv_istore_n (lv' := [(3, .int (v3 ||| (plots v4.toNatClampNeg))), (2, .int (v2 ||| ((1 : Int32) <<< ((cliffs v4.toNatClampNeg) &&& 31)))), (0, .ref (ad 0)), (1, .int v1), (4, .int v4)]) X.x X.b dX4_openCliffs_72 rfl hl (Nat.le_of_ble_eq_true rfl) rfl (fun ls hl => ?_)
              refine lv_iinc (v := (v4 + (-1))) (lv' := [(4, .int (v4 + (-1))), (3, .int (v3 ||| (plots v4.toNatClampNeg))), (2, .int (v2 ||| ((1 : Int32) <<< ((cliffs v4.toNatClampNeg) &&& 31)))), (0, .ref (ad 0)), (1, .int v1)]) X.x X.b dX4_openCliffs_73 hl (k := 4) rfl (congrArg _ ki_m1) (Nat.le_of_ble_eq_true rfl) rfl (fun ls hl => ?_)
              refine lv_goto (tgt := 12) X.x X.b dX4_openCliffs_76 (by decide) ?_
              exact ih size plots cliffs v1 (v2 ||| ((1 : Int32) <<< ((cliffs v4.toNatClampNeg) &&& 31))) (v3 ||| (plots v4.toNatClampNeg)) (v4 + (-1)) hf _ _ _ Z (lv_sub hl [3, 4, 2, 1, 0] rfl)
  rw [fX4_openCliffs.eq_1] at hf
  refine lv_iconst (v := 0) X.x X.b dX4_openCliffs_0 ki_0 ?_
  refine lv_istore_n (lv' := [(2, .int 0), (0, .ref (ad 0)), (1, .int x1)]) X.x X.b dX4_openCliffs_1 rfl hl (Nat.le_of_ble_eq_true rfl) rfl (fun ls hl => ?_)
  refine lv_iconst (v := 0) X.x X.b dX4_openCliffs_2 ki_0 ?_
  refine lv_istore_n (lv' := [(3, .int 0), (2, .int 0), (0, .ref (ad 0)), (1, .int x1)]) X.x X.b dX4_openCliffs_3 rfl hl (Nat.le_of_ble_eq_true rfl) rfl (fun ls hl => ?_)
  refine lv_aload_n X.x X.b dX4_openCliffs_4 rfl (lv_at hl 2 rfl) ?_
  refine z_gf inG_X4 (ci := 4) rfl 0 (Nat.le_of_ble_eq_true rfl) rfl X Z wd_55 0 rfl (v := .int size) rfl dX4_openCliffs_5 ?_
  refine lv_iconst (v := 1) X.x X.b dX4_openCliffs_8 ki_1 ?_
  refine lv_isub X.x X.b dX4_openCliffs_9 ?_
  refine lv_istore (lv' := [(4, .int (size - 1)), (3, .int 0), (2, .int 0), (0, .ref (ad 0)), (1, .int x1)]) X.x X.b dX4_openCliffs_10 hl (Nat.le_of_ble_eq_true rfl) rfl (fun ls hl => ?_)
  exact L12 zfuel size plots cliffs x1 0 0 (size - 1) hf _ _ _ Z (lv_sub hl [3, 4, 2, 1, 0] rfl)
set_option maxRecDepth 100000 in
set_option maxHeartbeats 4000000 in
theorem mX3_ofReader (l : Launch) (Δ : zE) (ad : Nat → Nat) (reached : Int32) (lost : Int32) (size : Int32) (plots : Nat → Int32) (cliffs : Nat → Int32) (words : Nat → Int32) (needs : Nat → Int32) (told : Nat → Int32) (rea : Nat → Int32) (wread : Nat → Int32) (ltold : Nat → Int32) (lout : Nat → Int32) (sets : Nat → Int32) (x1 : Int32) (x2 : Int32) {res : Int32} (hf : fX3_ofReader size plots cliffs told rea wread ltold lout x1 x2 = some res) : zMet l Δ yX3_ofReader cX3_ofReader 3 (some .int) 2 45 [.ref (ad 0), .int x1, .int x2] (wX3 Δ ad reached lost size plots cliffs words needs told rea wread ltold lout sets) (wX3 Δ ad reached lost size plots cliffs words needs told rea wread ltold lout sets) (some (.int res)) := by
  refine z_start (by decide +kernel) (Nat.le_of_ble_eq_true rfl) ?_
  intro p e s m args below meth c A ls X Z hl
  have hl : lv_has ls 3 [(0, .ref (ad 0)), (1, .int x1), (2, .int x2)] := hl
  rw [fX3_ofReader.eq_1] at hf
  refine lv_iload_n X.x X.b dX3_ofReader_0 rfl (lv_at hl 2 rfl) ?_
  by_cases b1 : x2 = 0
  · have hf := zif_t b1 hf
    refine lv_tableIn (tgt := 40) X.x X.b dX3_ofReader_1 (zt_lo b1 (by decide)) (zt_hi b1 (by decide)) (zt_at (off := 39) b1 rfl) (by decide) ?_
    refine lv_aload_n X.x X.b dX3_ofReader_40 rfl (lv_at hl 0 rfl) ?_
    refine z_gf inG_X3 (ci := 3) rfl 1 (Nat.le_of_ble_eq_true rfl) rfl X Z wd_107 0 rfl (v := .ref (ad 6)) rfl dX3_ofReader_41 ?_
    refine z_gf inG_X0 (ci := 0) rfl 1 (Nat.le_of_ble_eq_true rfl) rfl X Z wd_87 6 rfl (v := .ref (ad 8)) rfl dX3_ofReader_44 ?_
    refine lv_iload_n X.x X.b dX3_ofReader_47 rfl (lv_at hl 1 rfl) ?_
    obtain ⟨b2, hf⟩ := zg_in hf
    refine z_iald X Z 8 rfl b2 dX3_ofReader_48 ?_
    obtain ⟨q1, hq1, hf⟩ := zb_ok hf
    refine z_callS X Z hl (mJ6_bitCount_0f7a4 l Δ  (rea x1.toNatClampNeg) hq1) wd_475 wd_429 wd_33 wd_430 ok_J6_bitCount_0f7a4 (w' := (wX3 Δ ad reached lost size plots cliffs words needs told rea wread ltold lout sets)) zSub_nil rfl zput_nil rfl (rest := []) rfl (Nat.le_of_ble_eq_true rfl) ⟨Nat.le_of_ble_eq_true rfl, Nat.le_of_ble_eq_true rfl⟩ ⟨Nat.zero_le _, Nat.zero_le _⟩ (st1 := [.int q1]) rfl dX3_ofReader_49 (fun H locs Z => ?_)
    cases hf
    exact z_iret X Z dX3_ofReader_52
  · have hf := zif_f b1 hf
    by_cases b3 : x2 = 1
    · have hf := zif_t b3 hf
      refine lv_tableIn (tgt := 53) X.x X.b dX3_ofReader_1 (zt_lo b3 (by decide)) (zt_hi b3 (by decide)) (zt_at (off := 52) b3 rfl) (by decide) ?_
      refine lv_aload_n X.x X.b dX3_ofReader_53 rfl (lv_at hl 0 rfl) ?_
      refine z_gf inG_X3 (ci := 3) rfl 1 (Nat.le_of_ble_eq_true rfl) rfl X Z wd_107 0 rfl (v := .ref (ad 6)) rfl dX3_ofReader_54 ?_
      refine z_gf inG_X0 (ci := 0) rfl 0 (Nat.le_of_ble_eq_true rfl) rfl X Z wd_85 6 rfl (v := .ref (ad 7)) rfl dX3_ofReader_57 ?_
      refine lv_iload_n X.x X.b dX3_ofReader_60 rfl (lv_at hl 1 rfl) ?_
      obtain ⟨b4, hf⟩ := zg_in hf
      refine z_iald X Z 7 rfl b4 dX3_ofReader_61 ?_
      obtain ⟨q2, hq2, hf⟩ := zb_ok hf
      refine z_callS X Z hl (mJ6_bitCount_0f7a4 l Δ  (told x1.toNatClampNeg) hq2) wd_475 wd_429 wd_33 wd_430 ok_J6_bitCount_0f7a4 (w' := (wX3 Δ ad reached lost size plots cliffs words needs told rea wread ltold lout sets)) zSub_nil rfl zput_nil rfl (rest := []) rfl (Nat.le_of_ble_eq_true rfl) ⟨Nat.le_of_ble_eq_true rfl, Nat.le_of_ble_eq_true rfl⟩ ⟨Nat.zero_le _, Nat.zero_le _⟩ (st1 := [.int q2]) rfl dX3_ofReader_62 (fun H locs Z => ?_)
      cases hf
      exact z_iret X Z dX3_ofReader_65
    · have hf := zif_f b3 hf
      by_cases b5 : x2 = 2
      · have hf := zif_t b5 hf
        refine lv_tableIn (tgt := 66) X.x X.b dX3_ofReader_1 (zt_lo b5 (by decide)) (zt_hi b5 (by decide)) (zt_at (off := 65) b5 rfl) (by decide) ?_
        refine lv_aload_n X.x X.b dX3_ofReader_66 rfl (lv_at hl 0 rfl) ?_
        refine z_gf inG_X3 (ci := 3) rfl 0 (Nat.le_of_ble_eq_true rfl) rfl X Z wd_105 0 rfl (v := .ref (ad 1)) rfl dX3_ofReader_67 ?_
        refine z_gf inG_X4 (ci := 4) rfl 0 (Nat.le_of_ble_eq_true rfl) rfl X Z wd_57 1 rfl (v := .int size) rfl dX3_ofReader_70 ?_
        refine lv_aload_n X.x X.b dX3_ofReader_73 rfl (lv_at hl 0 rfl) ?_
        refine z_gf inG_X3 (ci := 3) rfl 1 (Nat.le_of_ble_eq_true rfl) rfl X Z wd_107 0 rfl (v := .ref (ad 6)) rfl dX3_ofReader_74 ?_
        refine lv_iload_n X.x X.b dX3_ofReader_77 rfl (lv_at hl 1 rfl) ?_
        obtain ⟨q3, hq3, hf⟩ := zb_ok hf
        refine z_callV X Z hl (mX0_known l Δ (fun j => ad (j + 6)) told rea wread ltold lout x1 hq3) wd_465 wd_338 wd_339 wd_22 wd_340 ok_X0_known 0 rfl 6 rfl (w' := (wX3 Δ ad reached lost size plots cliffs words needs told rea wread ltold lout sets)) su_4 fs_4 pu_4 rfl (rest := [.int size]) rfl (Nat.le_of_ble_eq_true rfl) ⟨Nat.le_of_ble_eq_true rfl, Nat.le_of_ble_eq_true rfl⟩ ⟨Nat.zero_le _, Nat.zero_le _⟩ (st1 := [.int q3, .int size]) rfl dX3_ofReader_78 (fun H locs Z => ?_)
        obtain ⟨q4, hq4, hf⟩ := zb_ok hf
        refine z_callS X Z hl (mJ6_bitCount_0f7a4 l Δ  q3 hq4) wd_475 wd_429 wd_33 wd_430 ok_J6_bitCount_0f7a4 (w' := (wX3 Δ ad reached lost size plots cliffs words needs told rea wread ltold lout sets)) zSub_nil rfl zput_nil rfl (rest := [.int size]) rfl (Nat.le_of_ble_eq_true rfl) ⟨Nat.le_of_ble_eq_true rfl, Nat.le_of_ble_eq_true rfl⟩ ⟨Nat.zero_le _, Nat.zero_le _⟩ (st1 := [.int q4, .int size]) rfl dX3_ofReader_81 (fun H locs Z => ?_)
        refine lv_isub X.x X.b dX3_ofReader_84 ?_
        cases hf
        exact z_iret X Z dX3_ofReader_85
      · have hf := zif_f b5 hf
        by_cases b6 : x2 = 3
        · have hf := zif_t b6 hf
          refine lv_tableIn (tgt := 86) X.x X.b dX3_ofReader_1 (zt_lo b6 (by decide)) (zt_hi b6 (by decide)) (zt_at (off := 85) b6 rfl) (by decide) ?_
          refine lv_aload_n X.x X.b dX3_ofReader_86 rfl (lv_at hl 0 rfl) ?_
          refine z_gf inG_X3 (ci := 3) rfl 0 (Nat.le_of_ble_eq_true rfl) rfl X Z wd_105 0 rfl (v := .ref (ad 1)) rfl dX3_ofReader_87 ?_
          refine lv_aload_n X.x X.b dX3_ofReader_90 rfl (lv_at hl 0 rfl) ?_
          refine z_gf inG_X3 (ci := 3) rfl 1 (Nat.le_of_ble_eq_true rfl) rfl X Z wd_107 0 rfl (v := .ref (ad 6)) rfl dX3_ofReader_91 ?_
          refine lv_iload_n X.x X.b dX3_ofReader_94 rfl (lv_at hl 1 rfl) ?_
          obtain ⟨q5, hq5, hf⟩ := zb_ok hf
          refine z_callV X Z hl (mX0_known l Δ (fun j => ad (j + 6)) told rea wread ltold lout x1 hq5) wd_465 wd_338 wd_339 wd_22 wd_340 ok_X0_known 0 rfl 6 rfl (w' := (wX3 Δ ad reached lost size plots cliffs words needs told rea wread ltold lout sets)) su_4 fs_4 pu_4 rfl (rest := [.ref (ad 1)]) rfl (Nat.le_of_ble_eq_true rfl) ⟨Nat.le_of_ble_eq_true rfl, Nat.le_of_ble_eq_true rfl⟩ ⟨Nat.zero_le _, Nat.zero_le _⟩ (st1 := [.int q5, .ref (ad 1)]) rfl dX3_ofReader_95 (fun H locs Z => ?_)
          obtain ⟨q6, hq6, hf⟩ := zb_ok hf
          refine z_callV X Z hl (mX4_openCliffs l Δ (fun j => ad (j + 1)) size plots cliffs words needs q5 hq6) wd_613 wd_614 wd_615 wd_21 wd_616 ok_X4_openCliffs 4 rfl 1 rfl (w' := (wX3 Δ ad reached lost size plots cliffs words needs told rea wread ltold lout sets)) su_5 fs_5 pu_5 rfl (rest := []) rfl (Nat.le_of_ble_eq_true rfl) ⟨Nat.le_of_ble_eq_true rfl, Nat.le_of_ble_eq_true rfl⟩ ⟨Nat.zero_le _, Nat.zero_le _⟩ (st1 := [.int q6]) rfl dX3_ofReader_98 (fun H locs Z => ?_)
          cases hf
          exact z_iret X Z dX3_ofReader_101
        · have hf := zif_f b6 hf
          by_cases b7 : x2 = 4
          · have hf := zif_t b7 hf
            refine lv_tableIn (tgt := 102) X.x X.b dX3_ofReader_1 (zt_lo b7 (by decide)) (zt_hi b7 (by decide)) (zt_at (off := 101) b7 rfl) (by decide) ?_
            refine lv_aload_n X.x X.b dX3_ofReader_102 rfl (lv_at hl 0 rfl) ?_
            refine z_gf inG_X3 (ci := 3) rfl 1 (Nat.le_of_ble_eq_true rfl) rfl X Z wd_107 0 rfl (v := .ref (ad 6)) rfl dX3_ofReader_103 ?_
            refine z_gf inG_X0 (ci := 0) rfl 2 (Nat.le_of_ble_eq_true rfl) rfl X Z wd_89 6 rfl (v := .ref (ad 9)) rfl dX3_ofReader_106 ?_
            refine lv_iload_n X.x X.b dX3_ofReader_109 rfl (lv_at hl 1 rfl) ?_
            obtain ⟨b8, hf⟩ := zg_in hf
            refine z_iald X Z 9 rfl b8 dX3_ofReader_110 ?_
            cases hf
            exact z_iret X Z dX3_ofReader_111
          · have hf := zif_f b7 hf
            by_cases b9 : x2 = 5
            · have hf := zif_t b9 hf
              refine lv_tableIn (tgt := 112) X.x X.b dX3_ofReader_1 (zt_lo b9 (by decide)) (zt_hi b9 (by decide)) (zt_at (off := 111) b9 rfl) (by decide) ?_
              refine lv_aload_n X.x X.b dX3_ofReader_112 rfl (lv_at hl 0 rfl) ?_
              refine z_gf inG_X3 (ci := 3) rfl 1 (Nat.le_of_ble_eq_true rfl) rfl X Z wd_107 0 rfl (v := .ref (ad 6)) rfl dX3_ofReader_113 ?_
              refine z_gf inG_X0 (ci := 0) rfl 3 (Nat.le_of_ble_eq_true rfl) rfl X Z wd_91 6 rfl (v := .ref (ad 10)) rfl dX3_ofReader_116 ?_
              refine lv_iload_n X.x X.b dX3_ofReader_119 rfl (lv_at hl 1 rfl) ?_
              obtain ⟨b10, hf⟩ := zg_in hf
              refine z_iald X Z 10 rfl b10 dX3_ofReader_120 ?_
              cases hf
              exact z_iret X Z dX3_ofReader_121
            · have hf := zif_f b9 hf
              refine lv_tableOut (tgt := 122) X.x X.b dX3_ofReader_1 (by have := (x2 : Int32).toInt; have := zt_ne (n := 0) b1 (by decide); have := zt_ne (n := 1) b3 (by decide); have := zt_ne (n := 2) b5 (by decide); have := zt_ne (n := 3) b6 (by decide); have := zt_ne (n := 4) b7 (by decide); have := zt_ne (n := 5) b9 (by decide); omega) (by decide) ?_
              refine lv_aload_n X.x X.b dX3_ofReader_122 rfl (lv_at hl 0 rfl) ?_
              refine z_gf inG_X3 (ci := 3) rfl 1 (Nat.le_of_ble_eq_true rfl) rfl X Z wd_107 0 rfl (v := .ref (ad 6)) rfl dX3_ofReader_123 ?_
              refine z_gf inG_X0 (ci := 0) rfl 4 (Nat.le_of_ble_eq_true rfl) rfl X Z wd_93 6 rfl (v := .ref (ad 11)) rfl dX3_ofReader_126 ?_
              refine lv_iload_n X.x X.b dX3_ofReader_129 rfl (lv_at hl 1 rfl) ?_
              obtain ⟨b11, hf⟩ := zg_in hf
              refine z_iald X Z 11 rfl b11 dX3_ofReader_130 ?_
              cases hf
              exact z_iret X Z dX3_ofReader_131
