set_option maxRecDepth 100000 in
set_option maxHeartbeats 4000000 in
theorem mX7_open (l : Launch) (Δ : zE) (ad : Nat → Nat) (thr : Int32) (saved : Int32) (mlen : Int32) (spot : Int32) (reads : Int32) (hash : Int64) (ms : Nat → Int32) (mpast : Nat → Int32) (mtext : Nat → Int32) (mread : Nat → Int32) (x1 : Int32) {res : Int32} (hf : fX7_open ms x1 = some res) : zMet l Δ yX7_open cX7_open 4 (some .int) 1 22 [.ref (ad 0), .int x1] (wX7 Δ ad thr saved mlen spot reads hash ms mpast mtext mread) (wX7 Δ ad thr saved mlen spot reads hash ms mpast mtext mread) (some (.int res)) := by
  refine z_start (by decide +kernel) (Nat.le_of_ble_eq_true rfl) ?_
  intro p e s m args below meth c A ls X Z hl
  have hl : lv_has ls 4 [(0, .ref (ad 0)), (1, .int x1)] := hl
  have L4 : ∀ (k : Nat) (ms : Nat → Int32) (v1 : Int32) (v2 : Int32) (v3 : Int32), fX7_open_4 k ms v1 v2 v3 = some res → ∀ (H : Heap) (locs : List Loc) (ls : Array Slot), zW Δ A s.heap (wX7 Δ ad thr saved mlen spot reads hash ms mpast mtext mread) H locs → lv_has ls 4 [(0, .ref (ad 0)), (1, .int v1), (2, .int v2), (3, .int v3)] → W p l e { frames := 1, cells := 0, slots := 0, locals := 22 } s m args below meth c H locs 0 0 (zEnd Δ below args s 0 0 A (some (.int res)) (wX7 Δ ad thr saved mlen spot reads hash ms mpast mtext mread)) (F0 m 4 ls []) := by
    intro k
    induction k with
    | zero =>
      intro ms v1 v2 v3 hf
      rw [fX7_open_4.eq_1] at hf
      cases hf
    | succ k ih =>
      intro ms v1 v2 v3 hf H locs ls Z hl
      rw [fX7_open_4.eq_2] at hf
      refine lv_iload_n X.x X.b dX7_open_4 rfl (lv_at hl 3 rfl) ?_
      refine lv_aload_n X.x X.b dX7_open_5 rfl (lv_at hl 0 rfl) ?_
      refine z_gf inG_X7 (ci := 7) rfl 1 (Nat.le_of_ble_eq_true rfl) rfl X Z wd_823 0 rfl (v := .ref (ad 1)) rfl dX7_open_6 ?_
      refine lv_iconst (v := 0) X.x X.b dX7_open_9 ki_0 ?_
      refine z_iald X Z 1 rfl (zvin (by decide)) dX7_open_10 ?_
      refine lv_icmp_ge (tgt := 65) X.x X.b dX7_open_11 (by decide) (fun b1 => ?_) (fun b1 => ?_)
      · have hf := zif_t b1 hf
        refine lv_iload_n X.x X.b dX7_open_65 rfl (lv_at hl 2 rfl) ?_
        cases hf
        exact z_iret X Z dX7_open_66
      · have hf := zif_f b1 hf
        refine lv_aload_n X.x X.b dX7_open_14 rfl (lv_at hl 0 rfl) ?_
        refine lv_iload_n X.x X.b dX7_open_15 rfl (lv_at hl 1 rfl) ?_
        refine lv_iload_n X.x X.b dX7_open_16 rfl (lv_at hl 3 rfl) ?_
        obtain ⟨q1, hq1, hf⟩ := zb_ok hf
        refine z_callV X Z hl (mX7_known l Δ ad thr saved mlen spot reads hash ms mpast mtext mread v1 v3 hq1) wd_908 wd_910 wd_25 wd_68 wd_911 ok_X7_known 7 rfl 0 rfl (w' := (wX7 Δ ad thr saved mlen spot reads hash ms mpast mtext mread)) su_16 fs_16 pu_16 rfl (rest := []) rfl (Nat.le_of_ble_eq_true rfl) ⟨Nat.le_of_ble_eq_true rfl, Nat.le_of_ble_eq_true rfl⟩ ⟨Nat.zero_le _, Nat.zero_le _⟩ (st1 := [.int q1]) rfl dX7_open_17 (fun H locs Z => ?_)
        refine lv_if_le (tgt := 59) X.x X.b dX7_open_20 (by decide) (fun b2 => ?_) (fun b2 => ?_)
        · have hf := zif_t b2 hf
          refine lv_iinc (v := (v3 + 1)) (lv' := [(3, .int (v3 + 1)), (0, .ref (ad 0)), (1, .int v1), (2, .int v2)]) X.x X.b dX7_open_59 hl (k := 3) rfl (congrArg _ ki_1) (Nat.le_of_ble_eq_true rfl) rfl (fun ls hl => ?_)
          refine lv_goto (tgt := 4) X.x X.b dX7_open_62 (by decide) ?_
          exact ih ms v1 v2 (v3 + 1) hf _ _ _ Z (lv_sub hl [1, 2, 3, 0] rfl)
        · have hf := zif_f b2 hf
          refine lv_iload_n X.x X.b dX7_open_23 rfl (lv_at hl 2 rfl) ?_
          refine lv_aload_n X.x X.b dX7_open_24 rfl (lv_at hl 0 rfl) ?_
          refine lv_iload_n X.x X.b dX7_open_25 rfl (lv_at hl 3 rfl) ?_
          refine lv_iconst (v := 0) X.x X.b dX7_open_26 ki_0 ?_
          obtain ⟨q2, hq2, hf⟩ := zb_ok hf
          refine z_callV X Z hl (mX7_of l Δ ad thr saved mlen spot reads hash ms mpast mtext mread v3 0 hq2) wd_896 wd_898 wd_23 wd_68 wd_899 ok_X7_of 7 rfl 0 rfl (w' := (wX7 Δ ad thr saved mlen spot reads hash ms mpast mtext mread)) su_16 fs_16 pu_16 rfl (rest := [.int v2]) rfl (Nat.le_of_ble_eq_true rfl) ⟨Nat.le_of_ble_eq_true rfl, Nat.le_of_ble_eq_true rfl⟩ ⟨Nat.zero_le _, Nat.zero_le _⟩ (st1 := [.int q2, .int v2]) rfl dX7_open_27 (fun H locs Z => ?_)
          refine lv_iconst (v := (-1)) X.x X.b dX7_open_30 ki_m1 ?_
          refine lv_ixor X.x X.b dX7_open_31 ?_
          refine lv_iand X.x X.b dX7_open_32 ?_
          refine lv_istore_n (lv' := [(2, .int (v2 &&& (q2 ^^^ (-1)))), (0, .ref (ad 0)), (1, .int v1), (3, .int v3)]) X.x X.b dX7_open_33 rfl hl (Nat.le_of_ble_eq_true rfl) rfl (fun ls hl => ?_)
          refine lv_iload_n X.x X.b dX7_open_34 rfl (lv_at hl 0 rfl) ?_
          refine lv_aload_n X.x X.b dX7_open_35 rfl (lv_at hl 1 rfl) ?_
          refine lv_iload_n X.x X.b dX7_open_36 rfl (lv_at hl 3 rfl) ?_
          refine lv_iconst (v := 1) X.x X.b dX7_open_37 ki_1 ?_
          obtain ⟨q3, hq3, hf⟩ := zb_ok hf
          refine z_callV X Z hl (mX7_of l Δ ad thr saved mlen spot reads hash ms mpast mtext mread v3 1 hq3) wd_896 wd_898 wd_23 wd_68 wd_899 ok_X7_of 7 rfl 0 rfl (w' := (wX7 Δ ad thr saved mlen spot reads hash ms mpast mtext mread)) su_16 fs_16 pu_16 rfl (rest := [.int (v2 &&& (q2 ^^^ (-1)))]) rfl (Nat.le_of_ble_eq_true rfl) ⟨Nat.le_of_ble_eq_true rfl, Nat.le_of_ble_eq_true rfl⟩ ⟨Nat.zero_le _, Nat.zero_le _⟩ (st1 := [.int q3, .int (v2 &&& (q2 ^^^ (-1)))]) rfl dX7_open_38 (fun H locs Z => ?_)
          refine lv_iconst (v := (-1)) X.x X.b dX7_open_41 ki_m1 ?_
          refine lv_icmp_ne (tgt := 49) X.x X.b dX7_open_42 (by decide) (fun b3 => ?_) (fun b3 => ?_)
          · have hf := zif_f b3 hf
            refine lv_iconst (v := 1) X.x X.b dX7_open_49 ki_1 ?_
            refine lv_aload_n X.x X.b dX7_open_50 rfl (lv_at hl 1 rfl) ?_
            refine lv_iload_n X.x X.b dX7_open_51 rfl (lv_at hl 3 rfl) ?_
            refine lv_iconst (v := 1) X.x X.b dX7_open_52 ki_1 ?_
            obtain ⟨q4, hq4, hf⟩ := zb_ok hf
            refine z_callV X Z hl (mX7_of l Δ ad thr saved mlen spot reads hash ms mpast mtext mread v3 1 hq4) wd_896 wd_898 wd_23 wd_68 wd_899 ok_X7_of 7 rfl 0 rfl (w' := (wX7 Δ ad thr saved mlen spot reads hash ms mpast mtext mread)) su_16 fs_16 pu_16 rfl (rest := [.int 1, .int (v2 &&& (q2 ^^^ (-1)))]) rfl (Nat.le_of_ble_eq_true rfl) ⟨Nat.le_of_ble_eq_true rfl, Nat.le_of_ble_eq_true rfl⟩ ⟨Nat.zero_le _, Nat.zero_le _⟩ (st1 := [.int q4, .int 1, .int (v2 &&& (q2 ^^^ (-1)))]) rfl dX7_open_53 (fun H locs Z => ?_)
            refine lv_ishl X.x X.b dX7_open_56 ?_
            refine lv_ior X.x X.b dX7_open_57 ?_
            refine lv_istore_n (lv' := [(2, .int ((v2 &&& (q2 ^^^ (-1))) ||| ((1 : Int32) <<< (q4 &&& 31)))), (0, .ref (ad 0)), (1, .int v1), (3, .int v3)]) X.x X.b dX7_open_58 rfl hl (Nat.le_of_ble_eq_true rfl) rfl (fun ls hl => ?_)
            refine lv_iinc (v := (v3 + 1)) (lv' := [(3, .int (v3 + 1)), (2, .int ((v2 &&& (q2 ^^^ (-1))) ||| ((1 : Int32) <<< (q4 &&& 31)))), (0, .ref (ad 0)), (1, .int v1)]) X.x X.b dX7_open_59 hl (k := 3) rfl (congrArg _ ki_1) (Nat.le_of_ble_eq_true rfl) rfl (fun ls hl => ?_)
            refine lv_goto (tgt := 4) X.x X.b dX7_open_62 (by decide) ?_
            exact ih ms v1 ((v2 &&& (q2 ^^^ (-1))) ||| ((1 : Int32) <<< (q4 &&& 31))) (v3 + 1) hf _ _ _ Z (lv_sub hl [2, 3, 1, 0] rfl)
          · have hf := zif_t b3 hf
            refine lv_iconst (v := 0) X.x X.b dX7_open_45 ki_0 ?_
            refine lv_goto (tgt := 57) X.x X.b dX7_open_46 (by decide) ?_
            refine lv_ior X.x X.b dX7_open_57 ?_
            refine lv_istore_n (lv' := [(2, .int ((v2 &&& (q2 ^^^ (-1))) ||| 0)), (0, .ref (ad 0)), (1, .int v1), (3, .int v3)]) X.x X.b dX7_open_58 rfl hl (Nat.le_of_ble_eq_true rfl) rfl (fun ls hl => ?_)
            refine lv_iinc (v := (v3 + 1)) (lv' := [(3, .int (v3 + 1)), (2, .int ((v2 &&& (q2 ^^^ (-1))) ||| 0)), (0, .ref (ad 0)), (1, .int v1)]) X.x X.b dX7_open_59 hl (k := 3) rfl (congrArg _ ki_1) (Nat.le_of_ble_eq_true rfl) rfl (fun ls hl => ?_)
            refine lv_goto (tgt := 4) X.x X.b dX7_open_62 (by decide) ?_
            exact ih ms v1 ((v2 &&& (q2 ^^^ (-1))) ||| 0) (v3 + 1) hf _ _ _ Z (lv_sub hl [2, 3, 1, 0] rfl)
  rw [fX7_open.eq_1] at hf
  refine lv_iconst (v := 0) X.x X.b dX7_open_0 ki_0 ?_
  refine lv_istore_n (lv' := [(2, .int 0), (0, .ref (ad 0)), (1, .int x1)]) X.x X.b dX7_open_1 rfl hl (Nat.le_of_ble_eq_true rfl) rfl (fun ls hl => ?_)
  refine lv_iconst (v := 0) X.x X.b dX7_open_2 ki_0 ?_
  refine lv_istore_n (lv' := [(3, .int 0), (2, .int 0), (0, .ref (ad 0)), (1, .int x1)]) X.x X.b dX7_open_3 rfl hl (Nat.le_of_ble_eq_true rfl) rfl (fun ls hl => ?_)
  exact L4 zfuel ms x1 0 0 hf _ _ _ Z (lv_sub hl [2, 3, 1, 0] rfl)
set_option maxRecDepth 100000 in
set_option maxHeartbeats 4000000 in
theorem mX7_readerOf (l : Launch) (Δ : zE) (ad : Nat → Nat) (thr : Int32) (saved : Int32) (mlen : Int32) (spot : Int32) (reads : Int32) (hash : Int64) (ms : Nat → Int32) (mpast : Nat → Int32) (mtext : Nat → Int32) (mread : Nat → Int32) (x1 : Int32) (x2 : Int32) {res : Int32} (hf : fX7_readerOf ms x1 x2 = some res) : zMet l Δ yX7_readerOf cX7_readerOf 3 (some .int) 2 46 [.ref (ad 0), .int x1, .int x2] (wX7 Δ ad thr saved mlen spot reads hash ms mpast mtext mread) (wX7 Δ ad thr saved mlen spot reads hash ms mpast mtext mread) (some (.int res)) := by
  refine z_start (by decide +kernel) (Nat.le_of_ble_eq_true rfl) ?_
  intro p e s m args below meth c A ls X Z hl
  have hl : lv_has ls 3 [(0, .ref (ad 0)), (1, .int x1), (2, .int x2)] := hl
  rw [fX7_readerOf.eq_1] at hf
  refine lv_iload_n X.x X.b dX7_readerOf_0 rfl (lv_at hl 2 rfl) ?_
  by_cases b1 : x2 = 0
  · have hf := zif_t b1 hf
    refine lv_tableIn (tgt := 32) X.x X.b dX7_readerOf_1 (zt_lo b1 (by decide)) (zt_hi b1 (by decide)) (zt_at (off := 31) b1 rfl) (by decide) ?_
    refine lv_aload_n X.x X.b dX7_readerOf_32 rfl (lv_at hl 0 rfl) ?_
    refine lv_iload_n X.x X.b dX7_readerOf_33 rfl (lv_at hl 1 rfl) ?_
    refine lv_iconst (v := 2) X.x X.b dX7_readerOf_34 ki_2 ?_
    refine lv_iload_n X.x X.b dX7_readerOf_35 rfl (lv_at hl 2 rfl) ?_
    refine lv_isub X.x X.b dX7_readerOf_36 ?_
    obtain ⟨q1, hq1, hf⟩ := zb_ok hf
    refine z_callV X Z hl (mX7_manyKnown l Δ ad thr saved mlen spot reads hash ms mpast mtext mread x1 (2 - x2) hq1) wd_1038 wd_1040 wd_44 wd_68 wd_1041 ok_X7_manyKnown 7 rfl 0 rfl (w' := (wX7 Δ ad thr saved mlen spot reads hash ms mpast mtext mread)) su_16 fs_16 pu_16 rfl (rest := []) rfl (Nat.le_of_ble_eq_true rfl) ⟨Nat.le_of_ble_eq_true rfl, Nat.le_of_ble_eq_true rfl⟩ ⟨Nat.zero_le _, Nat.zero_le _⟩ (st1 := [.int q1]) rfl dX7_readerOf_37 (fun H locs Z => ?_)
    cases hf
    exact z_iret X Z dX7_readerOf_40
  · have hf := zif_f b1 hf
    by_cases b2 : x2 = 1
    · have hf := zif_t b2 hf
      refine lv_tableIn (tgt := 32) X.x X.b dX7_readerOf_1 (zt_lo b2 (by decide)) (zt_hi b2 (by decide)) (zt_at (off := 31) b2 rfl) (by decide) ?_
      refine lv_aload_n X.x X.b dX7_readerOf_32 rfl (lv_at hl 0 rfl) ?_
      refine lv_iload_n X.x X.b dX7_readerOf_33 rfl (lv_at hl 1 rfl) ?_
      refine lv_iconst (v := 2) X.x X.b dX7_readerOf_34 ki_2 ?_
      refine lv_iload_n X.x X.b dX7_readerOf_35 rfl (lv_at hl 2 rfl) ?_
      refine lv_isub X.x X.b dX7_readerOf_36 ?_
      obtain ⟨q2, hq2, hf⟩ := zb_ok hf
      refine z_callV X Z hl (mX7_manyKnown l Δ ad thr saved mlen spot reads hash ms mpast mtext mread x1 (2 - x2) hq2) wd_1038 wd_1040 wd_44 wd_68 wd_1041 ok_X7_manyKnown 7 rfl 0 rfl (w' := (wX7 Δ ad thr saved mlen spot reads hash ms mpast mtext mread)) su_16 fs_16 pu_16 rfl (rest := []) rfl (Nat.le_of_ble_eq_true rfl) ⟨Nat.le_of_ble_eq_true rfl, Nat.le_of_ble_eq_true rfl⟩ ⟨Nat.zero_le _, Nat.zero_le _⟩ (st1 := [.int q2]) rfl dX7_readerOf_37 (fun H locs Z => ?_)
      cases hf
      exact z_iret X Z dX7_readerOf_40
    · have hf := zif_f b2 hf
      by_cases b3 : x2 = 2
      · have hf := zif_t b3 hf
        refine lv_tableIn (tgt := 32) X.x X.b dX7_readerOf_1 (zt_lo b3 (by decide)) (zt_hi b3 (by decide)) (zt_at (off := 31) b3 rfl) (by decide) ?_
        refine lv_aload_n X.x X.b dX7_readerOf_32 rfl (lv_at hl 0 rfl) ?_
        refine lv_iload_n X.x X.b dX7_readerOf_33 rfl (lv_at hl 1 rfl) ?_
        refine lv_iconst (v := 2) X.x X.b dX7_readerOf_34 ki_2 ?_
        refine lv_iload_n X.x X.b dX7_readerOf_35 rfl (lv_at hl 2 rfl) ?_
        refine lv_isub X.x X.b dX7_readerOf_36 ?_
        obtain ⟨q3, hq3, hf⟩ := zb_ok hf
        refine z_callV X Z hl (mX7_manyKnown l Δ ad thr saved mlen spot reads hash ms mpast mtext mread x1 (2 - x2) hq3) wd_1038 wd_1040 wd_44 wd_68 wd_1041 ok_X7_manyKnown 7 rfl 0 rfl (w' := (wX7 Δ ad thr saved mlen spot reads hash ms mpast mtext mread)) su_16 fs_16 pu_16 rfl (rest := []) rfl (Nat.le_of_ble_eq_true rfl) ⟨Nat.le_of_ble_eq_true rfl, Nat.le_of_ble_eq_true rfl⟩ ⟨Nat.zero_le _, Nat.zero_le _⟩ (st1 := [.int q3]) rfl dX7_readerOf_37 (fun H locs Z => ?_)
        cases hf
        exact z_iret X Z dX7_readerOf_40
      · have hf := zif_f b3 hf
        by_cases b4 : x2 = 3
        · have hf := zif_t b4 hf
          refine lv_tableIn (tgt := 41) X.x X.b dX7_readerOf_1 (zt_lo b4 (by decide)) (zt_hi b4 (by decide)) (zt_at (off := 40) b4 rfl) (by decide) ?_
          refine lv_aload_n X.x X.b dX7_readerOf_41 rfl (lv_at hl 0 rfl) ?_
          refine lv_iload_n X.x X.b dX7_readerOf_42 rfl (lv_at hl 1 rfl) ?_
          obtain ⟨q4, hq4, hf⟩ := zb_ok hf
          refine z_callV X Z hl (mX7_open l Δ ad thr saved mlen spot reads hash ms mpast mtext mread x1 hq4) wd_1042 wd_1044 wd_45 wd_68 wd_1045 ok_X7_open 7 rfl 0 rfl (w' := (wX7 Δ ad thr saved mlen spot reads hash ms mpast mtext mread)) su_16 fs_16 pu_16 rfl (rest := []) rfl (Nat.le_of_ble_eq_true rfl) ⟨Nat.le_of_ble_eq_true rfl, Nat.le_of_ble_eq_true rfl⟩ ⟨Nat.zero_le _, Nat.zero_le _⟩ (st1 := [.int q4]) rfl dX7_readerOf_43 (fun H locs Z => ?_)
          cases hf
          exact z_iret X Z dX7_readerOf_46
        · have hf := zif_f b4 hf
          refine lv_tableOut (tgt := 47) X.x X.b dX7_readerOf_1 (by have := (x2 : Int32).toInt; have := zt_ne (n := 0) b1 (by decide); have := zt_ne (n := 1) b2 (by decide); have := zt_ne (n := 2) b3 (by decide); have := zt_ne (n := 3) b4 (by decide); omega) (by decide) ?_
          refine lv_aload_n X.x X.b dX7_readerOf_47 rfl (lv_at hl 0 rfl) ?_
          refine z_gf inG_X7 (ci := 7) rfl 1 (Nat.le_of_ble_eq_true rfl) rfl X Z wd_823 0 rfl (v := .ref (ad 1)) rfl dX7_readerOf_48 ?_
          refine lv_bipush (v := 65) X.x X.b dX7_readerOf_51 kb_65 ?_
          refine lv_iconst (v := 3) X.x X.b dX7_readerOf_53 ki_3 ?_
          refine lv_iload_n X.x X.b dX7_readerOf_54 rfl (lv_at hl 1 rfl) ?_
          refine lv_imul X.x X.b dX7_readerOf_55 ?_
          refine lv_iadd X.x X.b dX7_readerOf_56 ?_
          refine lv_iload_n X.x X.b dX7_readerOf_57 rfl (lv_at hl 2 rfl) ?_
          refine lv_iadd X.x X.b dX7_readerOf_58 ?_
          refine lv_iconst (v := 4) X.x X.b dX7_readerOf_59 ki_4 ?_
          refine lv_isub X.x X.b dX7_readerOf_60 ?_
          obtain ⟨b5, hf⟩ := zg_in hf
          refine z_iald X Z 1 rfl b5 dX7_readerOf_61 ?_
          cases hf
          exact z_iret X Z dX7_readerOf_62
set_option maxRecDepth 100000 in
set_option maxHeartbeats 4000000 in
theorem mX7_reader (l : Launch) (Δ : zE) (ad : Nat → Nat) (thr : Int32) (saved : Int32) (mlen : Int32) (spot : Int32) (reads : Int32) (hash : Int64) (ms : Nat → Int32) (mpast : Nat → Int32) (mtext : Nat → Int32) (mread : Nat → Int32) (x1 : Int32) (x2 : Int32) {res : Int32 × Int32} (hf : fX7_reader thr ms x1 x2 = some res) : zMet l Δ yX7_reader cX7_reader 3 (some .int) 3 68 [.ref (ad 0), .int x1, .int x2] (wX7 Δ ad thr saved mlen spot reads hash ms mpast mtext mread) (wX7 Δ ad res.2 saved mlen spot reads hash ms mpast mtext mread) (some (.int res.1)) := by
  refine z_start (by decide +kernel) (Nat.le_of_ble_eq_true rfl) ?_
  intro p e s m args below meth c A ls X Z hl
  have hl : lv_has ls 3 [(0, .ref (ad 0)), (1, .int x1), (2, .int x2)] := hl
  rw [fX7_reader.eq_1] at hf
  refine lv_aload_n X.x X.b dX7_reader_0 rfl (lv_at hl 0 rfl) ?_
  refine lv_iload_n X.x X.b dX7_reader_1 rfl (lv_at hl 1 rfl) ?_
  obtain ⟨q1, hq1, hf⟩ := zb_ok hf
  refine z_callS X Z hl (mX7_isReader l Δ  x1 hq1) wd_923 wd_924 wd_68 wd_925 ok_X7_isReader (w' := (wX7 Δ ad thr saved mlen spot reads hash ms mpast mtext mread)) zSub_nil rfl zput_nil rfl (rest := [.ref (ad 0)]) rfl (Nat.le_of_ble_eq_true rfl) ⟨Nat.le_of_ble_eq_true rfl, Nat.le_of_ble_eq_true rfl⟩ ⟨Nat.zero_le _, Nat.zero_le _⟩ (st1 := [.int q1, .ref (ad 0)]) rfl dX7_reader_2 (fun H locs Z => ?_)
  refine lv_if_ne (tgt := 12) X.x X.b dX7_reader_5 (by decide) (fun b1 => ?_) (fun b1 => ?_)
  · have hf := zif_f b1 hf
    refine lv_iload_n X.x X.b dX7_reader_12 rfl (lv_at hl 2 rfl) ?_
    refine lv_iconst (v := 0) X.x X.b dX7_reader_13 ki_0 ?_
    refine lv_bipush (v := 6) X.x X.b dX7_reader_14 kb_6 ?_
    obtain ⟨q2, hq2, hf⟩ := zb_ok hf
    refine z_callS X Z hl (mX7_in l Δ  x2 0 6 hq2) wd_870 wd_871 wd_68 wd_872 ok_X7_in (w' := (wX7 Δ ad thr saved mlen spot reads hash ms mpast mtext mread)) zSub_nil rfl zput_nil rfl (rest := [.ref (ad 0)]) rfl (Nat.le_of_ble_eq_true rfl) ⟨Nat.le_of_ble_eq_true rfl, Nat.le_of_ble_eq_true rfl⟩ ⟨Nat.zero_le _, Nat.zero_le _⟩ (st1 := [.int q2, .ref (ad 0)]) rfl dX7_reader_16 (fun H locs Z => ?_)
    refine lv_if_eq (tgt := 26) X.x X.b dX7_reader_19 (by decide) (fun b2 => ?_) (fun b2 => ?_)
    · have hf := zif_t b2 hf
      refine lv_iconst (v := 2) X.x X.b dX7_reader_26 ki_2 ?_
      obtain ⟨q3, hq3, hf⟩ := zb_ok hf
      refine z_callV X Z hl (mX7_refuses l Δ ad thr saved mlen spot reads hash ms mpast mtext mread 2 hq3) wd_862 wd_864 wd_18 wd_68 wd_865 ok_X7_refuses 7 rfl 0 rfl (w' := (wX7 Δ ad q3.2 saved mlen spot reads hash ms mpast mtext mread)) su_16 fs_16 pu_16 rfl (rest := []) rfl (Nat.le_of_ble_eq_true rfl) ⟨Nat.le_of_ble_eq_true rfl, Nat.le_of_ble_eq_true rfl⟩ ⟨Nat.zero_le _, Nat.zero_le _⟩ (st1 := [.int q3.1]) rfl dX7_reader_27 (fun H locs Z => ?_)
      refine lv_if_eq (tgt := 37) X.x X.b dX7_reader_30 (by decide) (fun b3 => ?_) (fun b3 => ?_)
      · have hf := zif_t b3 hf
        refine lv_aload_n X.x X.b dX7_reader_37 rfl (lv_at hl 0 rfl) ?_
        refine lv_iload_n X.x X.b dX7_reader_38 rfl (lv_at hl 1 rfl) ?_
        refine lv_iload_n X.x X.b dX7_reader_39 rfl (lv_at hl 2 rfl) ?_
        obtain ⟨q4, hq4, hf⟩ := zb_ok hf
        refine z_callV X Z hl (mX7_readerOf l Δ ad q3.2 saved mlen spot reads hash ms mpast mtext mread x1 x2 hq4) wd_1034 wd_1036 wd_43 wd_68 wd_1037 ok_X7_readerOf 7 rfl 0 rfl (w' := (wX7 Δ ad q3.2 saved mlen spot reads hash ms mpast mtext mread)) su_16 fs_16 pu_16 rfl (rest := []) rfl (Nat.le_of_ble_eq_true rfl) ⟨Nat.le_of_ble_eq_true rfl, Nat.le_of_ble_eq_true rfl⟩ ⟨Nat.zero_le _, Nat.zero_le _⟩ (st1 := [.int q4]) rfl dX7_reader_40 (fun H locs Z => ?_)
        cases hf
        exact z_iret X Z dX7_reader_43
      · have hf := zif_f b3 hf
        refine lv_iconst (v := 0) X.x X.b dX7_reader_33 ki_0 ?_
        refine lv_goto (tgt := 43) X.x X.b dX7_reader_34 (by decide) ?_
        cases hf
        exact z_iret X Z dX7_reader_43
    · have hf := zif_f b2 hf
      refine lv_iconst (v := 0) X.x X.b dX7_reader_22 ki_0 ?_
      refine lv_goto (tgt := 27) X.x X.b dX7_reader_23 (by decide) ?_
      obtain ⟨q5, hq5, hf⟩ := zb_ok hf
      refine z_callV X Z hl (mX7_refuses l Δ ad thr saved mlen spot reads hash ms mpast mtext mread 0 hq5) wd_862 wd_864 wd_18 wd_68 wd_865 ok_X7_refuses 7 rfl 0 rfl (w' := (wX7 Δ ad q5.2 saved mlen spot reads hash ms mpast mtext mread)) su_16 fs_16 pu_16 rfl (rest := []) rfl (Nat.le_of_ble_eq_true rfl) ⟨Nat.le_of_ble_eq_true rfl, Nat.le_of_ble_eq_true rfl⟩ ⟨Nat.zero_le _, Nat.zero_le _⟩ (st1 := [.int q5.1]) rfl dX7_reader_27 (fun H locs Z => ?_)
      refine lv_if_eq (tgt := 37) X.x X.b dX7_reader_30 (by decide) (fun b4 => ?_) (fun b4 => ?_)
      · have hf := zif_t b4 hf
        refine lv_aload_n X.x X.b dX7_reader_37 rfl (lv_at hl 0 rfl) ?_
        refine lv_iload_n X.x X.b dX7_reader_38 rfl (lv_at hl 1 rfl) ?_
        refine lv_iload_n X.x X.b dX7_reader_39 rfl (lv_at hl 2 rfl) ?_
        obtain ⟨q6, hq6, hf⟩ := zb_ok hf
        refine z_callV X Z hl (mX7_readerOf l Δ ad q5.2 saved mlen spot reads hash ms mpast mtext mread x1 x2 hq6) wd_1034 wd_1036 wd_43 wd_68 wd_1037 ok_X7_readerOf 7 rfl 0 rfl (w' := (wX7 Δ ad q5.2 saved mlen spot reads hash ms mpast mtext mread)) su_16 fs_16 pu_16 rfl (rest := []) rfl (Nat.le_of_ble_eq_true rfl) ⟨Nat.le_of_ble_eq_true rfl, Nat.le_of_ble_eq_true rfl⟩ ⟨Nat.zero_le _, Nat.zero_le _⟩ (st1 := [.int q6]) rfl dX7_reader_40 (fun H locs Z => ?_)
        cases hf
        exact z_iret X Z dX7_reader_43
      · have hf := zif_f b4 hf
        refine lv_iconst (v := 0) X.x X.b dX7_reader_33 ki_0 ?_
        refine lv_goto (tgt := 43) X.x X.b dX7_reader_34 (by decide) ?_
        cases hf
        exact z_iret X Z dX7_reader_43
  · have hf := zif_t b1 hf
    refine lv_iconst (v := 1) X.x X.b dX7_reader_8 ki_1 ?_
    refine lv_goto (tgt := 27) X.x X.b dX7_reader_9 (by decide) ?_
    obtain ⟨q7, hq7, hf⟩ := zb_ok hf
    refine z_callV X Z hl (mX7_refuses l Δ ad thr saved mlen spot reads hash ms mpast mtext mread 1 hq7) wd_862 wd_864 wd_18 wd_68 wd_865 ok_X7_refuses 7 rfl 0 rfl (w' := (wX7 Δ ad q7.2 saved mlen spot reads hash ms mpast mtext mread)) su_16 fs_16 pu_16 rfl (rest := []) rfl (Nat.le_of_ble_eq_true rfl) ⟨Nat.le_of_ble_eq_true rfl, Nat.le_of_ble_eq_true rfl⟩ ⟨Nat.zero_le _, Nat.zero_le _⟩ (st1 := [.int q7.1]) rfl dX7_reader_27 (fun H locs Z => ?_)
    refine lv_if_eq (tgt := 37) X.x X.b dX7_reader_30 (by decide) (fun b5 => ?_) (fun b5 => ?_)
    · have hf := zif_t b5 hf
      refine lv_aload_n X.x X.b dX7_reader_37 rfl (lv_at hl 0 rfl) ?_
      refine lv_iload_n X.x X.b dX7_reader_38 rfl (lv_at hl 1 rfl) ?_
      refine lv_iload_n X.x X.b dX7_reader_39 rfl (lv_at hl 2 rfl) ?_
      obtain ⟨q8, hq8, hf⟩ := zb_ok hf
      refine z_callV X Z hl (mX7_readerOf l Δ ad q7.2 saved mlen spot reads hash ms mpast mtext mread x1 x2 hq8) wd_1034 wd_1036 wd_43 wd_68 wd_1037 ok_X7_readerOf 7 rfl 0 rfl (w' := (wX7 Δ ad q7.2 saved mlen spot reads hash ms mpast mtext mread)) su_16 fs_16 pu_16 rfl (rest := []) rfl (Nat.le_of_ble_eq_true rfl) ⟨Nat.le_of_ble_eq_true rfl, Nat.le_of_ble_eq_true rfl⟩ ⟨Nat.zero_le _, Nat.zero_le _⟩ (st1 := [.int q8]) rfl dX7_reader_40 (fun H locs Z => ?_)
      cases hf
      exact z_iret X Z dX7_reader_43
    · have hf := zif_f b5 hf
      refine lv_iconst (v := 0) X.x X.b dX7_reader_33 ki_0 ?_
      refine lv_goto (tgt := 43) X.x X.b dX7_reader_34 (by decide) ?_
      cases hf
      exact z_iret X Z dX7_reader_43
set_option maxRecDepth 100000 in
set_option maxHeartbeats 4000000 in
theorem mX7_ofParts (l : Launch) (Δ : zE) (ad : Nat → Nat) (thr : Int32) (saved : Int32) (mlen : Int32) (spot : Int32) (reads : Int32) (hash : Int64) (ms : Nat → Int32) (mpast : Nat → Int32) (mtext : Nat → Int32) (mread : Nat → Int32) (x1 : Int32) (x2 : Int32) {res : Int32} (hf : fX7_ofParts ms x1 x2 = some res) : zMet l Δ yX7_ofParts cX7_ofParts 7 (some .int) 2 44 [.ref (ad 0), .int x1, .int x2] (wX7 Δ ad thr saved mlen spot reads hash ms mpast mtext mread) (wX7 Δ ad thr saved mlen spot reads hash ms mpast mtext mread) (some (.int res)) := by
  refine z_start (by decide +kernel) (Nat.le_of_ble_eq_true rfl) ?_
  intro p e s m args below meth c A ls X Z hl
  have hl : lv_has ls 7 [(0, .ref (ad 0)), (1, .int x1), (2, .int x2)] := hl
  have L11 : ∀ (k : Nat) (ms : Nat → Int32) (v1 : Int32) (v2 : Int32) (v3 : Int32) (v4 : Int32) (v5 : Int32) (v6 : Int32), fX7_ofParts_11 k ms v1 v2 v3 v4 v5 v6 = some res → ∀ (H : Heap) (locs : List Loc) (ls : Array Slot), zW Δ A s.heap (wX7 Δ ad thr saved mlen spot reads hash ms mpast mtext mread) H locs → lv_has ls 7 [(0, .ref (ad 0)), (1, .int v1), (2, .int v2), (3, .int v3), (4, .int v4), (5, .int v5), (6, .int v6)] → W p l e { frames := 2, cells := 0, slots := 0, locals := 44 } s m args below meth c H locs 0 0 (zEnd Δ below args s 0 0 A (some (.int res)) (wX7 Δ ad thr saved mlen spot reads hash ms mpast mtext mread)) (F0 m 11 ls []) := by
    intro k
    induction k with
    | zero =>
      intro ms v1 v2 v3 v4 v5 v6 hf
      rw [fX7_ofParts_11.eq_1] at hf
      cases hf
    | succ k ih =>
      intro ms v1 v2 v3 v4 v5 v6 hf H locs ls Z hl
      rw [fX7_ofParts_11.eq_2] at hf
      refine lv_iload X.x X.b dX7_ofParts_11 (lv_at hl 6 rfl) ?_
      refine lv_aload_n X.x X.b dX7_ofParts_13 rfl (lv_at hl 0 rfl) ?_
      refine z_gf inG_X7 (ci := 7) rfl 1 (Nat.le_of_ble_eq_true rfl) rfl X Z wd_823 0 rfl (v := .ref (ad 1)) rfl dX7_ofParts_14 ?_
      refine lv_iconst (v := 0) X.x X.b dX7_ofParts_17 ki_0 ?_
      refine z_iald X Z 1 rfl (zvin (by decide)) dX7_ofParts_18 ?_
      refine lv_icmp_ge (tgt := 86) X.x X.b dX7_ofParts_19 (by decide) (fun b1 => ?_) (fun b1 => ?_)
      · have hf := zif_t b1 hf
        refine lv_iload_n X.x X.b dX7_ofParts_86 rfl (lv_at hl 2 rfl) ?_
        refine lv_if_ne (tgt := 94) X.x X.b dX7_ofParts_87 (by decide) (fun b2 => ?_) (fun b2 => ?_)
        · have hf := zif_f b2 hf
          refine lv_iload_n X.x X.b dX7_ofParts_94 rfl (lv_at hl 2 rfl) ?_
          refine lv_iconst (v := 1) X.x X.b dX7_ofParts_95 ki_1 ?_
          refine lv_icmp_ne (tgt := 104) X.x X.b dX7_ofParts_96 (by decide) (fun b3 => ?_) (fun b3 => ?_)
          · have hf := zif_f b3 hf
            refine lv_iload X.x X.b dX7_ofParts_104 (lv_at hl 5 rfl) ?_
            cases hf
            exact z_iret X Z dX7_ofParts_106
          · have hf := zif_t b3 hf
            refine lv_iload X.x X.b dX7_ofParts_99 (lv_at hl 4 rfl) ?_
            refine lv_goto (tgt := 106) X.x X.b dX7_ofParts_101 (by decide) ?_
            cases hf
            exact z_iret X Z dX7_ofParts_106
        · have hf := zif_t b2 hf
          refine lv_iload_n X.x X.b dX7_ofParts_90 rfl (lv_at hl 3 rfl) ?_
          refine lv_goto (tgt := 106) X.x X.b dX7_ofParts_91 (by decide) ?_
          cases hf
          exact z_iret X Z dX7_ofParts_106
      · have hf := zif_f b1 hf
        refine lv_iload_n X.x X.b dX7_ofParts_22 rfl (lv_at hl 3 rfl) ?_
        refine lv_aload_n X.x X.b dX7_ofParts_23 rfl (lv_at hl 0 rfl) ?_
        refine lv_iload X.x X.b dX7_ofParts_24 (lv_at hl 6 rfl) ?_
        refine lv_iload_n X.x X.b dX7_ofParts_26 rfl (lv_at hl 1 rfl) ?_
        obtain ⟨q1, hq1, hf⟩ := zb_ok hf
        refine z_callV X Z hl (mX7_goesOn l Δ ad thr saved mlen spot reads hash ms mpast mtext mread v6 v1 hq1) wd_1062 wd_1064 wd_49 wd_68 wd_1065 ok_X7_goesOn 7 rfl 0 rfl (w' := (wX7 Δ ad thr saved mlen spot reads hash ms mpast mtext mread)) su_16 fs_16 pu_16 rfl (rest := [.int v3]) rfl (Nat.le_of_ble_eq_true rfl) ⟨Nat.le_of_ble_eq_true rfl, Nat.le_of_ble_eq_true rfl⟩ ⟨Nat.zero_le _, Nat.zero_le _⟩ (st1 := [.int q1, .int v3]) rfl dX7_ofParts_27 (fun H locs Z => ?_)
        refine lv_if_eq (tgt := 37) X.x X.b dX7_ofParts_30 (by decide) (fun b4 => ?_) (fun b4 => ?_)
        · have hf := zif_t b4 hf
          refine lv_iconst (v := 0) X.x X.b dX7_ofParts_37 ki_0 ?_
          refine lv_iadd X.x X.b dX7_ofParts_38 ?_
          refine lv_istore_n (lv' := [(3, .int (v3 + 0)), (0, .ref (ad 0)), (1, .int v1), (2, .int v2), (4, .int v4), (5, .int v5), (6, .int v6)]) X.x X.b dX7_ofParts_39 rfl hl (Nat.le_of_ble_eq_true rfl) rfl (fun ls hl => ?_)
          refine lv_aload_n X.x X.b dX7_ofParts_40 rfl (lv_at hl 1 rfl) ?_
          refine lv_iload X.x X.b dX7_ofParts_41 (lv_at hl 6 rfl) ?_
          refine lv_iload_n X.x X.b dX7_ofParts_43 rfl (lv_at hl 2 rfl) ?_
          obtain ⟨q2, hq2, hf⟩ := zb_ok hf
          refine z_callV X Z hl (mX7_goesOn l Δ ad thr saved mlen spot reads hash ms mpast mtext mread v6 v1 hq2) wd_1062 wd_1064 wd_49 wd_68 wd_1065 ok_X7_goesOn 7 rfl 0 rfl (w' := (wX7 Δ ad thr saved mlen spot reads hash ms mpast mtext mread)) su_16 fs_16 pu_16 rfl (rest := []) rfl (Nat.le_of_ble_eq_true rfl) ⟨Nat.le_of_ble_eq_true rfl, Nat.le_of_ble_eq_true rfl⟩ ⟨Nat.zero_le _, Nat.zero_le _⟩ (st1 := [.int q2]) rfl dX7_ofParts_44 (fun H locs Z => ?_)
          refine lv_if_eq (tgt := 55) X.x X.b dX7_ofParts_47 (by decide) (fun b5 => ?_) (fun b5 => ?_)
          · have hf := zif_t b5 hf
            refine lv_iload X.x X.b dX7_ofParts_55 (lv_at hl 4 rfl) ?_
            refine lv_istore (lv' := [(4, .int v4), (3, .int (v3 + 0)), (0, .ref (ad 0)), (1, .int v1), (2, .int v2), (5, .int v5), (6, .int v6)]) X.x X.b dX7_ofParts_57 hl (Nat.le_of_ble_eq_true rfl) rfl (fun ls hl => ?_)
            refine lv_iload X.x X.b dX7_ofParts_59 (lv_at hl 5 rfl) ?_
            refine lv_aload_n X.x X.b dX7_ofParts_61 rfl (lv_at hl 2 rfl) ?_
            refine lv_iload X.x X.b dX7_ofParts_62 (lv_at hl 6 rfl) ?_
            refine lv_iconst (v := 1) X.x X.b dX7_ofParts_64 ki_1 ?_
            obtain ⟨q3, hq3, hf⟩ := zb_ok hf
            refine z_callV X Z hl (mX7_of l Δ ad thr saved mlen spot reads hash ms mpast mtext mread v6 1 hq3) wd_896 wd_898 wd_23 wd_68 wd_899 ok_X7_of 7 rfl 0 rfl (w' := (wX7 Δ ad thr saved mlen spot reads hash ms mpast mtext mread)) su_16 fs_16 pu_16 rfl (rest := [.int v5]) rfl (Nat.le_of_ble_eq_true rfl) ⟨Nat.le_of_ble_eq_true rfl, Nat.le_of_ble_eq_true rfl⟩ ⟨Nat.zero_le _, Nat.zero_le _⟩ (st1 := [.int q3, .int v5]) rfl dX7_ofParts_65 (fun H locs Z => ?_)
            refine lv_iload_n X.x X.b dX7_ofParts_68 rfl (lv_at hl 3 rfl) ?_
            refine lv_icmp_ne (tgt := 76) X.x X.b dX7_ofParts_69 (by decide) (fun b6 => ?_) (fun b6 => ?_)
            · have hf := zif_f b6 hf
              refine lv_iconst (v := 0) X.x X.b dX7_ofParts_76 ki_0 ?_
              refine lv_iadd X.x X.b dX7_ofParts_77 ?_
              refine lv_istore (lv' := [(5, .int (v5 + 0)), (4, .int v4), (3, .int (v3 + 0)), (0, .ref (ad 0)), (1, .int v1), (2, .int v2), (6, .int v6)]) X.x X.b dX7_ofParts_78 hl (Nat.le_of_ble_eq_true rfl) rfl (fun ls hl => ?_)
              refine lv_iinc (v := (v6 + 1)) (lv' := [(6, .int (v6 + 1)), (5, .int (v5 + 0)), (4, .int v4), (3, .int (v3 + 0)), (0, .ref (ad 0)), (1, .int v1), (2, .int v2)]) X.x X.b dX7_ofParts_80 hl (k := 6) rfl (congrArg _ ki_1) (Nat.le_of_ble_eq_true rfl) rfl (fun ls hl => ?_)
              refine lv_goto (tgt := 11) X.x X.b dX7_ofParts_83 (by decide) ?_
              exact ih ms v1 v2 (v3 + 0) v4 (v5 + 0) (v6 + 1) hf _ _ _ Z (lv_sub hl [4, 5, 6, 3, 2, 1, 0] rfl)
            · have hf := zif_t b6 hf
              refine lv_iconst (v := 1) X.x X.b dX7_ofParts_72 ki_1 ?_
              refine lv_goto (tgt := 77) X.x X.b dX7_ofParts_73 (by decide) ?_
              refine lv_iadd X.x X.b dX7_ofParts_77 ?_
              refine lv_istore (lv' := [(5, .int (v5 + 1)), (4, .int v4), (3, .int (v3 + 0)), (0, .ref (ad 0)), (1, .int v1), (2, .int v2), (6, .int v6)]) X.x X.b dX7_ofParts_78 hl (Nat.le_of_ble_eq_true rfl) rfl (fun ls hl => ?_)
              refine lv_iinc (v := (v6 + 1)) (lv' := [(6, .int (v6 + 1)), (5, .int (v5 + 1)), (4, .int v4), (3, .int (v3 + 0)), (0, .ref (ad 0)), (1, .int v1), (2, .int v2)]) X.x X.b dX7_ofParts_80 hl (k := 6) rfl (congrArg _ ki_1) (Nat.le_of_ble_eq_true rfl) rfl (fun ls hl => ?_)
              refine lv_goto (tgt := 11) X.x X.b dX7_ofParts_83 (by decide) ?_
              exact ih ms v1 v2 (v3 + 0) v4 (v5 + 1) (v6 + 1) hf _ _ _ Z (lv_sub hl [4, 5, 6, 3, 2, 1, 0] rfl)
          · have hf := zif_f b5 hf
            refine lv_iload X.x X.b dX7_ofParts_50 (lv_at hl 6 rfl) ?_
            refine lv_goto (tgt := 57) X.x X.b dX7_ofParts_52 (by decide) ?_
            refine lv_istore (lv' := [(4, .int v6), (3, .int (v3 + 0)), (0, .ref (ad 0)), (1, .int v1), (2, .int v2), (5, .int v5), (6, .int v6)]) X.x X.b dX7_ofParts_57 hl (Nat.le_of_ble_eq_true rfl) rfl (fun ls hl => ?_)
            refine lv_iload X.x X.b dX7_ofParts_59 (lv_at hl 5 rfl) ?_
            refine lv_aload_n X.x X.b dX7_ofParts_61 rfl (lv_at hl 2 rfl) ?_
            refine lv_iload X.x X.b dX7_ofParts_62 (lv_at hl 6 rfl) ?_
            refine lv_iconst (v := 1) X.x X.b dX7_ofParts_64 ki_1 ?_
            obtain ⟨q4, hq4, hf⟩ := zb_ok hf
            refine z_callV X Z hl (mX7_of l Δ ad thr saved mlen spot reads hash ms mpast mtext mread v6 1 hq4) wd_896 wd_898 wd_23 wd_68 wd_899 ok_X7_of 7 rfl 0 rfl (w' := (wX7 Δ ad thr saved mlen spot reads hash ms mpast mtext mread)) su_16 fs_16 pu_16 rfl (rest := [.int v5]) rfl (Nat.le_of_ble_eq_true rfl) ⟨Nat.le_of_ble_eq_true rfl, Nat.le_of_ble_eq_true rfl⟩ ⟨Nat.zero_le _, Nat.zero_le _⟩ (st1 := [.int q4, .int v5]) rfl dX7_ofParts_65 (fun H locs Z => ?_)
            refine lv_iload_n X.x X.b dX7_ofParts_68 rfl (lv_at hl 3 rfl) ?_
            refine lv_icmp_ne (tgt := 76) X.x X.b dX7_ofParts_69 (by decide) (fun b7 => ?_) (fun b7 => ?_)
            · have hf := zif_f b7 hf
              refine lv_iconst (v := 0) X.x X.b dX7_ofParts_76 ki_0 ?_
              refine lv_iadd X.x X.b dX7_ofParts_77 ?_
              refine lv_istore (lv' := [(5, .int (v5 + 0)), (4, .int v6), (3, .int (v3 + 0)), (0, .ref (ad 0)), (1, .int v1), (2, .int v2), (6, .int v6)]) X.x X.b dX7_ofParts_78 hl (Nat.le_of_ble_eq_true rfl) rfl (fun ls hl => ?_)
              refine lv_iinc (v := (v6 + 1)) (lv' := [(6, .int (v6 + 1)), (5, .int (v5 + 0)), (4, .int v6), (3, .int (v3 + 0)), (0, .ref (ad 0)), (1, .int v1), (2, .int v2)]) X.x X.b dX7_ofParts_80 hl (k := 6) rfl (congrArg _ ki_1) (Nat.le_of_ble_eq_true rfl) rfl (fun ls hl => ?_)
              refine lv_goto (tgt := 11) X.x X.b dX7_ofParts_83 (by decide) ?_
              exact ih ms v1 v2 (v3 + 0) v6 (v5 + 0) (v6 + 1) hf _ _ _ Z (lv_sub hl [4, 5, 6, 3, 2, 1, 0] rfl)
            · have hf := zif_t b7 hf
              refine lv_iconst (v := 1) X.x X.b dX7_ofParts_72 ki_1 ?_
              refine lv_goto (tgt := 77) X.x X.b dX7_ofParts_73 (by decide) ?_
              refine lv_iadd X.x X.b dX7_ofParts_77 ?_
              refine lv_istore (lv' := [(5, .int (v5 + 1)), (4, .int v6), (3, .int (v3 + 0)), (0, .ref (ad 0)), (1, .int v1), (2, .int v2), (6, .int v6)]) X.x X.b dX7_ofParts_78 hl (Nat.le_of_ble_eq_true rfl) rfl (fun ls hl => ?_)
              refine lv_iinc (v := (v6 + 1)) (lv' := [(6, .int (v6 + 1)), (5, .int (v5 + 1)), (4, .int v6), (3, .int (v3 + 0)), (0, .ref (ad 0)), (1, .int v1), (2, .int v2)]) X.x X.b dX7_ofParts_80 hl (k := 6) rfl (congrArg _ ki_1) (Nat.le_of_ble_eq_true rfl) rfl (fun ls hl => ?_)
              refine lv_goto (tgt := 11) X.x X.b dX7_ofParts_83 (by decide) ?_
              exact ih ms v1 v2 (v3 + 0) v6 (v5 + 1) (v6 + 1) hf _ _ _ Z (lv_sub hl [4, 5, 6, 3, 2, 1, 0] rfl)
        · have hf := zif_f b4 hf
          refine lv_iconst (v := 1) X.x X.b dX7_ofParts_33 ki_1 ?_
          refine lv_goto (tgt := 38) X.x X.b dX7_ofParts_34 (by decide) ?_
          refine lv_iadd X.x X.b dX7_ofParts_38 ?_
          refine lv_istore_n (lv' := [(3, .int (v3 + 1)), (0, .ref (ad 0)), (1, .int v1), (2, .int v2), (4, .int v4), (5, .int v5), (6, .int v6)]) X.x X.b dX7_ofParts_39 rfl hl (Nat.le_of_ble_eq_true rfl) rfl (fun ls hl => ?_)
          refine lv_aload_n X.x X.b dX7_ofParts_40 rfl (lv_at hl 1 rfl) ?_
          refine lv_iload X.x X.b dX7_ofParts_41 (lv_at hl 6 rfl) ?_
          refine lv_iload_n X.x X.b dX7_ofParts_43 rfl (lv_at hl 2 rfl) ?_
          obtain ⟨q5, hq5, hf⟩ := zb_ok hf
          refine z_callV X Z hl (mX7_goesOn l Δ ad thr saved mlen spot reads hash ms mpast mtext mread v6 v1 hq5) wd_1062 wd_1064 wd_49 wd_68 wd_1065 ok_X7_goesOn 7 rfl 0 rfl (w' := (wX7 Δ ad thr saved mlen spot reads hash ms mpast mtext mread)) su_16 fs_16 pu_16 rfl (rest := []) rfl (Nat.le_of_ble_eq_true rfl) ⟨Nat.le_of_ble_eq_true rfl, Nat.le_of_ble_eq_true rfl⟩ ⟨Nat.zero_le _, Nat.zero_le _⟩ (st1 := [.int q5]) rfl dX7_ofParts_44 (fun H locs Z => ?_)
          refine lv_if_eq (tgt := 55) X.x X.b dX7_ofParts_47 (by decide) (fun b8 => ?_) (fun b8 => ?_)
          · have hf := zif_t b8 hf
            refine lv_iload X.x X.b dX7_ofParts_55 (lv_at hl 4 rfl) ?_
            refine lv_istore (lv' := [(4, .int v4), (3, .int (v3 + 1)), (0, .ref (ad 0)), (1, .int v1), (2, .int v2), (5, .int v5), (6, .int v6)]) X.x X.b dX7_ofParts_57 hl (Nat.le_of_ble_eq_true rfl) rfl (fun ls hl => ?_)
            refine lv_iload X.x X.b dX7_ofParts_59 (lv_at hl 5 rfl) ?_
            refine lv_aload_n X.x X.b dX7_ofParts_61 rfl (lv_at hl 2 rfl) ?_
            refine lv_iload X.x X.b dX7_ofParts_62 (lv_at hl 6 rfl) ?_
            refine lv_iconst (v := 1) X.x X.b dX7_ofParts_64 ki_1 ?_
            obtain ⟨q6, hq6, hf⟩ := zb_ok hf
            refine z_callV X Z hl (mX7_of l Δ ad thr saved mlen spot reads hash ms mpast mtext mread v6 1 hq6) wd_896 wd_898 wd_23 wd_68 wd_899 ok_X7_of 7 rfl 0 rfl (w' := (wX7 Δ ad thr saved mlen spot reads hash ms mpast mtext mread)) su_16 fs_16 pu_16 rfl (rest := [.int v5]) rfl (Nat.le_of_ble_eq_true rfl) ⟨Nat.le_of_ble_eq_true rfl, Nat.le_of_ble_eq_true rfl⟩ ⟨Nat.zero_le _, Nat.zero_le _⟩ (st1 := [.int q6, .int v5]) rfl dX7_ofParts_65 (fun H locs Z => ?_)
            refine lv_iload_n X.x X.b dX7_ofParts_68 rfl (lv_at hl 3 rfl) ?_
            refine lv_icmp_ne (tgt := 76) X.x X.b dX7_ofParts_69 (by decide) (fun b9 => ?_) (fun b9 => ?_)
            · have hf := zif_f b9 hf
              refine lv_iconst (v := 0) X.x X.b dX7_ofParts_76 ki_0 ?_
              refine lv_iadd X.x X.b dX7_ofParts_77 ?_
              refine lv_istore (lv' := [(5, .int (v5 + 0)), (4, .int v4), (3, .int (v3 + 1)), (0, .ref (ad 0)), (1, .int v1), (2, .int v2), (6, .int v6)]) X.x X.b dX7_ofParts_78 hl (Nat.le_of_ble_eq_true rfl) rfl (fun ls hl => ?_)
              refine lv_iinc (v := (v6 + 1)) (lv' := [(6, .int (v6 + 1)), (5, .int (v5 + 0)), (4, .int v4), (3, .int (v3 + 1)), (0, .ref (ad 0)), (1, .int v1), (2, .int v2)]) X.x X.b dX7_ofParts_80 hl (k := 6) rfl (congrArg _ ki_1) (Nat.le_of_ble_eq_true rfl) rfl (fun ls hl => ?_)
              refine lv_goto (tgt := 11) X.x X.b dX7_ofParts_83 (by decide) ?_
              exact ih ms v1 v2 (v3 + 1) v4 (v5 + 0) (v6 + 1) hf _ _ _ Z (lv_sub hl [4, 5, 6, 3, 2, 1, 0] rfl)
            · have hf := zif_t b9 hf
              refine lv_iconst (v := 1) X.x X.b dX7_ofParts_72 ki_1 ?_
              refine lv_goto (tgt := 77) X.x X.b dX7_ofParts_73 (by decide) ?_
              refine lv_iadd X.x X.b dX7_ofParts_77 ?_
              refine lv_istore (lv' := [(5, .int (v5 + 1)), (4, .int v4), (3, .int (v3 + 1)), (0, .ref (ad 0)), (1, .int v1), (2, .int v2), (6, .int v6)]) X.x X.b dX7_ofParts_78 hl (Nat.le_of_ble_eq_true rfl) rfl (fun ls hl => ?_)
              refine lv_iinc (v := (v6 + 1)) (lv' := [(6, .int (v6 + 1)), (5, .int (v5 + 1)), (4, .int v4), (3, .int (v3 + 1)), (0, .ref (ad 0)), (1, .int v1), (2, .int v2)]) X.x X.b dX7_ofParts_80 hl (k := 6) rfl (congrArg _ ki_1) (Nat.le_of_ble_eq_true rfl) rfl (fun ls hl => ?_)
              refine lv_goto (tgt := 11) X.x X.b dX7_ofParts_83 (by decide) ?_
              exact ih ms v1 v2 (v3 + 1) v4 (v5 + 1) (v6 + 1) hf _ _ _ Z (lv_sub hl [4, 5, 6, 3, 2, 1, 0] rfl)
          · have hf := zif_f b8 hf
            refine lv_iload X.x X.b dX7_ofParts_50 (lv_at hl 6 rfl) ?_
            refine lv_goto (tgt := 57) X.x X.b dX7_ofParts_52 (by decide) ?_
            refine lv_istore (lv' := [(4, .int v6), (3, .int (v3 + 1)), (0, .ref (ad 0)), (1, .int v1), (2, .int v2), (5, .int v5), (6, .int v6)]) X.x X.b dX7_ofParts_57 hl (Nat.le_of_ble_eq_true rfl) rfl (fun ls hl => ?_)
            refine lv_iload X.x X.b dX7_ofParts_59 (lv_at hl 5 rfl) ?_
            refine lv_aload_n X.x X.b dX7_ofParts_61 rfl (lv_at hl 2 rfl) ?_
            refine lv_iload X.x X.b dX7_ofParts_62 (lv_at hl 6 rfl) ?_
            refine lv_iconst (v := 1) X.x X.b dX7_ofParts_64 ki_1 ?_
            obtain ⟨q7, hq7, hf⟩ := zb_ok hf
            refine z_callV X Z hl (mX7_of l Δ ad thr saved mlen spot reads hash ms mpast mtext mread v6 1 hq7) wd_896 wd_898 wd_23 wd_68 wd_899 ok_X7_of 7 rfl 0 rfl (w' := (wX7 Δ ad thr saved mlen spot reads hash ms mpast mtext mread)) su_16 fs_16 pu_16 rfl (rest := [.int v5]) rfl (Nat.le_of_ble_eq_true rfl) ⟨Nat.le_of_ble_eq_true rfl, Nat.le_of_ble_eq_true rfl⟩ ⟨Nat.zero_le _, Nat.zero_le _⟩ (st1 := [.int q7, .int v5]) rfl dX7_ofParts_65 (fun H locs Z => ?_)
            refine lv_iload_n X.x X.b dX7_ofParts_68 rfl (lv_at hl 3 rfl) ?_
            refine lv_icmp_ne (tgt := 76) X.x X.b dX7_ofParts_69 (by decide) (fun b10 => ?_) (fun b10 => ?_)
            · have hf := zif_f b10 hf
              refine lv_iconst (v := 0) X.x X.b dX7_ofParts_76 ki_0 ?_
              refine lv_iadd X.x X.b dX7_ofParts_77 ?_
              refine lv_istore (lv' := [(5, .int (v5 + 0)), (4, .int v6), (3, .int (v3 + 1)), (0, .ref (ad 0)), (1, .int v1), (2, .int v2), (6, .int v6)]) X.x X.b dX7_ofParts_78 hl (Nat.le_of_ble_eq_true rfl) rfl (fun ls hl => ?_)
              refine lv_iinc (v := (v6 + 1)) (lv' := [(6, .int (v6 + 1)), (5, .int (v5 + 0)), (4, .int v6), (3, .int (v3 + 1)), (0, .ref (ad 0)), (1, .int v1), (2, .int v2)]) X.x X.b dX7_ofParts_80 hl (k := 6) rfl (congrArg _ ki_1) (Nat.le_of_ble_eq_true rfl) rfl (fun ls hl => ?_)
              refine lv_goto (tgt := 11) X.x X.b dX7_ofParts_83 (by decide) ?_
              exact ih ms v1 v2 (v3 + 1) v6 (v5 + 0) (v6 + 1) hf _ _ _ Z (lv_sub hl [4, 5, 6, 3, 2, 1, 0] rfl)
            · have hf := zif_t b10 hf
              refine lv_iconst (v := 1) X.x X.b dX7_ofParts_72 ki_1 ?_
              refine lv_goto (tgt := 77) X.x X.b dX7_ofParts_73 (by decide) ?_
              refine lv_iadd X.x X.b dX7_ofParts_77 ?_
              refine lv_istore (lv' := [(5, .int (v5 + 1)), (4, .int v6), (3, .int (v3 + 1)), (0, .ref (ad 0)), (1, .int v1), (2, .int v2), (6, .int v6)]) X.x X.b dX7_ofParts_78 hl (Nat.le_of_ble_eq_true rfl) rfl (fun ls hl => ?_)
              refine lv_iinc (v := (v6 + 1)) (lv' := [(6, .int (v6 + 1)), (5, .int (v5 + 1)), (4, .int v6), (3, .int (v3 + 1)), (0, .ref (ad 0)), (1, .int v1), (2, .int v2)]) X.x X.b dX7_ofParts_80 hl (k := 6) rfl (congrArg _ ki_1) (Nat.le_of_ble_eq_true rfl) rfl (fun ls hl => ?_)
              refine lv_goto (tgt := 11) X.x X.b dX7_ofParts_83 (by decide) ?_
              exact ih ms v1 v2 (v3 + 1) v6 (v5 + 1) (v6 + 1) hf _ _ _ Z (lv_sub hl [4, 5, 6, 3, 2, 1, 0] rfl)
  rw [fX7_ofParts.eq_1] at hf
  refine lv_iconst (v := 0) X.x X.b dX7_ofParts_0 ki_0 ?_
  refine lv_istore_n (lv' := [(3, .int 0), (0, .ref (ad 0)), (1, .int x1), (2, .int x2)]) X.x X.b dX7_ofParts_1 rfl hl (Nat.le_of_ble_eq_true rfl) rfl (fun ls hl => ?_)
  refine lv_iconst (v := (-1)) X.x X.b dX7_ofParts_2 ki_m1 ?_
  refine lv_istore (lv' := [(4, .int (-1)), (3, .int 0), (0, .ref (ad 0)), (1, .int x1), (2, .int x2)]) X.x X.b dX7_ofParts_3 hl (Nat.le_of_ble_eq_true rfl) rfl (fun ls hl => ?_)
  refine lv_iconst (v := 0) X.x X.b dX7_ofParts_5 ki_0 ?_
  refine lv_istore (lv' := [(5, .int 0), (4, .int (-1)), (3, .int 0), (0, .ref (ad 0)), (1, .int x1), (2, .int x2)]) X.x X.b dX7_ofParts_6 hl (Nat.le_of_ble_eq_true rfl) rfl (fun ls hl => ?_)
  refine lv_iconst (v := 0) X.x X.b dX7_ofParts_8 ki_0 ?_
  refine lv_istore (lv' := [(6, .int 0), (5, .int 0), (4, .int (-1)), (3, .int 0), (0, .ref (ad 0)), (1, .int x1), (2, .int x2)]) X.x X.b dX7_ofParts_9 hl (Nat.le_of_ble_eq_true rfl) rfl (fun ls hl => ?_)
  exact L11 zfuel ms x1 x2 0 (-1) 0 0 hf _ _ _ Z (lv_sub hl [4, 5, 6, 3, 2, 1, 0] rfl)
set_option maxRecDepth 100000 in
set_option maxHeartbeats 4000000 in
theorem mX7_openTo (l : Launch) (Δ : zE) (ad : Nat → Nat) (thr : Int32) (saved : Int32) (mlen : Int32) (spot : Int32) (reads : Int32) (hash : Int64) (ms : Nat → Int32) (mpast : Nat → Int32) (mtext : Nat → Int32) (mread : Nat → Int32) (x1 : Int32) {res : Int32} (hf : fX7_openTo ms x1 = some res) : zMet l Δ yX7_openTo cX7_openTo 4 (some .int) 2 45 [.ref (ad 0), .int x1] (wX7 Δ ad thr saved mlen spot reads hash ms mpast mtext mread) (wX7 Δ ad thr saved mlen spot reads hash ms mpast mtext mread) (some (.int res)) := by
  refine z_start (by decide +kernel) (Nat.le_of_ble_eq_true rfl) ?_
  intro p e s m args below meth c A ls X Z hl
  have hl : lv_has ls 4 [(0, .ref (ad 0)), (1, .int x1)] := hl
  have L4 : ∀ (k : Nat) (ms : Nat → Int32) (v1 : Int32) (v2 : Int32) (v3 : Int32), fX7_openTo_4 k ms v1 v2 v3 = some res → ∀ (H : Heap) (locs : List Loc) (ls : Array Slot), zW Δ A s.heap (wX7 Δ ad thr saved mlen spot reads hash ms mpast mtext mread) H locs → lv_has ls 4 [(0, .ref (ad 0)), (1, .int v1), (2, .int v2), (3, .int v3)] → W p l e { frames := 2, cells := 0, slots := 0, locals := 45 } s m args below meth c H locs 0 0 (zEnd Δ below args s 0 0 A (some (.int res)) (wX7 Δ ad thr saved mlen spot reads hash ms mpast mtext mread)) (F0 m 4 ls []) := by
    intro k
    induction k with
    | zero =>
      intro ms v1 v2 v3 hf
      rw [fX7_openTo_4.eq_1] at hf
      cases hf
    | succ k ih =>
      intro ms v1 v2 v3 hf H locs ls Z hl
      rw [fX7_openTo_4.eq_2] at hf
      refine lv_iload_n X.x X.b dX7_openTo_4 rfl (lv_at hl 3 rfl) ?_
      refine lv_bipush (v := 6) X.x X.b dX7_openTo_5 kb_6 ?_
      refine lv_icmp_ge (tgt := 28) X.x X.b dX7_openTo_7 (by decide) (fun b1 => ?_) (fun b1 => ?_)
      · have hf := zif_t b1 hf
        refine lv_iload_n X.x X.b dX7_openTo_28 rfl (lv_at hl 2 rfl) ?_
        cases hf
        exact z_iret X Z dX7_openTo_29
      · have hf := zif_f b1 hf
        refine lv_iload_n X.x X.b dX7_openTo_10 rfl (lv_at hl 2 rfl) ?_
        refine lv_aload_n X.x X.b dX7_openTo_11 rfl (lv_at hl 0 rfl) ?_
        refine lv_iload_n X.x X.b dX7_openTo_12 rfl (lv_at hl 3 rfl) ?_
        obtain ⟨q1, hq1, hf⟩ := zb_ok hf
        refine z_callV X Z hl (mX7_open l Δ ad thr saved mlen spot reads hash ms mpast mtext mread v3 hq1) wd_1042 wd_1044 wd_45 wd_68 wd_1045 ok_X7_open 7 rfl 0 rfl (w' := (wX7 Δ ad thr saved mlen spot reads hash ms mpast mtext mread)) su_16 fs_16 pu_16 rfl (rest := [.int v2]) rfl (Nat.le_of_ble_eq_true rfl) ⟨Nat.le_of_ble_eq_true rfl, Nat.le_of_ble_eq_true rfl⟩ ⟨Nat.zero_le _, Nat.zero_le _⟩ (st1 := [.int q1, .int v2]) rfl dX7_openTo_13 (fun H locs Z => ?_)
        refine lv_iload_n X.x X.b dX7_openTo_16 rfl (lv_at hl 1 rfl) ?_
        refine lv_ishr X.x X.b dX7_openTo_17 ?_
        refine lv_iconst (v := 1) X.x X.b dX7_openTo_18 ki_1 ?_
        refine lv_iand X.x X.b dX7_openTo_19 ?_
        refine lv_iadd X.x X.b dX7_openTo_20 ?_
        refine lv_istore_n (lv' := [(2, .int (v2 + ((q1 >>> (v1 &&& 31)) &&& 1))), (0, .ref (ad 0)), (1, .int v1), (3, .int v3)]) X.x X.b dX7_openTo_21 rfl hl (Nat.le_of_ble_eq_true rfl) rfl (fun ls hl => ?_)
        refine lv_iinc (v := (v3 + 1)) (lv' := [(3, .int (v3 + 1)), (2, .int (v2 + ((q1 >>> (v1 &&& 31)) &&& 1))), (0, .ref (ad 0)), (1, .int v1)]) X.x X.b dX7_openTo_22 hl (k := 3) rfl (congrArg _ ki_1) (Nat.le_of_ble_eq_true rfl) rfl (fun ls hl => ?_)
        refine lv_goto (tgt := 4) X.x X.b dX7_openTo_25 (by decide) ?_
        exact ih ms v1 (v2 + ((q1 >>> (v1 &&& 31)) &&& 1)) (v3 + 1) hf _ _ _ Z (lv_sub hl [2, 3, 1, 0] rfl)
  rw [fX7_openTo.eq_1] at hf
  refine lv_iconst (v := 0) X.x X.b dX7_openTo_0 ki_0 ?_
  refine lv_istore_n (lv' := [(2, .int 0), (0, .ref (ad 0)), (1, .int x1)]) X.x X.b dX7_openTo_1 rfl hl (Nat.le_of_ble_eq_true rfl) rfl (fun ls hl => ?_)
  refine lv_iconst (v := 0) X.x X.b dX7_openTo_2 ki_0 ?_
  refine lv_istore_n (lv' := [(3, .int 0), (2, .int 0), (0, .ref (ad 0)), (1, .int x1)]) X.x X.b dX7_openTo_3 rfl hl (Nat.le_of_ble_eq_true rfl) rfl (fun ls hl => ?_)
  exact L4 zfuel ms x1 0 0 hf _ _ _ Z (lv_sub hl [2, 3, 1, 0] rfl)
set_option maxRecDepth 100000 in
set_option maxHeartbeats 4000000 in
theorem mX7_plotOf (l : Launch) (Δ : zE) (ad : Nat → Nat) (thr : Int32) (saved : Int32) (mlen : Int32) (spot : Int32) (reads : Int32) (hash : Int64) (ms : Nat → Int32) (mpast : Nat → Int32) (mtext : Nat → Int32) (mread : Nat → Int32) (x1 : Int32) (x2 : Int32) {res : Int32} (hf : fX7_plotOf ms x1 x2 = some res) : zMet l Δ yX7_plotOf cX7_plotOf 3 (some .int) 3 70 [.ref (ad 0), .int x1, .int x2] (wX7 Δ ad thr saved mlen spot reads hash ms mpast mtext mread) (wX7 Δ ad thr saved mlen spot reads hash ms mpast mtext mread) (some (.int res)) := by
  refine z_start (by decide +kernel) (Nat.le_of_ble_eq_true rfl) ?_
  intro p e s m args below meth c A ls X Z hl
  have hl : lv_has ls 3 [(0, .ref (ad 0)), (1, .int x1), (2, .int x2)] := hl
  rw [fX7_plotOf.eq_1] at hf
  refine lv_iload_n X.x X.b dX7_plotOf_0 rfl (lv_at hl 2 rfl) ?_
  refine lv_iconst (v := 3) X.x X.b dX7_plotOf_1 ki_3 ?_
  refine lv_icmp_ne (tgt := 13) X.x X.b dX7_plotOf_2 (by decide) (fun b1 => ?_) (fun b1 => ?_)
  · have hf := zif_f b1 hf
    refine lv_aload_n X.x X.b dX7_plotOf_13 rfl (lv_at hl 0 rfl) ?_
    refine lv_iload_n X.x X.b dX7_plotOf_14 rfl (lv_at hl 1 rfl) ?_
    refine lv_iload_n X.x X.b dX7_plotOf_15 rfl (lv_at hl 2 rfl) ?_
    obtain ⟨q1, hq1, hf⟩ := zb_ok hf
    refine z_callV X Z hl (mX7_ofParts l Δ ad thr saved mlen spot reads hash ms mpast mtext mread x1 x2 hq1) wd_1058 wd_1060 wd_48 wd_68 wd_1061 ok_X7_ofParts 7 rfl 0 rfl (w' := (wX7 Δ ad thr saved mlen spot reads hash ms mpast mtext mread)) su_16 fs_16 pu_16 rfl (rest := []) rfl (Nat.le_of_ble_eq_true rfl) ⟨Nat.le_of_ble_eq_true rfl, Nat.le_of_ble_eq_true rfl⟩ ⟨Nat.zero_le _, Nat.zero_le _⟩ (st1 := [.int q1]) rfl dX7_plotOf_16 (fun H locs Z => ?_)
    cases hf
    exact z_iret X Z dX7_plotOf_19
  · have hf := zif_t b1 hf
    refine lv_aload_n X.x X.b dX7_plotOf_5 rfl (lv_at hl 0 rfl) ?_
    refine lv_iload_n X.x X.b dX7_plotOf_6 rfl (lv_at hl 1 rfl) ?_
    obtain ⟨q2, hq2, hf⟩ := zb_ok hf
    refine z_callV X Z hl (mX7_openTo l Δ ad thr saved mlen spot reads hash ms mpast mtext mread x1 hq2) wd_1054 wd_1056 wd_47 wd_68 wd_1057 ok_X7_openTo 7 rfl 0 rfl (w' := (wX7 Δ ad thr saved mlen spot reads hash ms mpast mtext mread)) su_16 fs_16 pu_16 rfl (rest := []) rfl (Nat.le_of_ble_eq_true rfl) ⟨Nat.le_of_ble_eq_true rfl, Nat.le_of_ble_eq_true rfl⟩ ⟨Nat.zero_le _, Nat.zero_le _⟩ (st1 := [.int q2]) rfl dX7_plotOf_7 (fun H locs Z => ?_)
    refine lv_goto (tgt := 19) X.x X.b dX7_plotOf_10 (by decide) ?_
    cases hf
    exact z_iret X Z dX7_plotOf_19
set_option maxRecDepth 100000 in
set_option maxHeartbeats 4000000 in
theorem mX7_plot (l : Launch) (Δ : zE) (ad : Nat → Nat) (thr : Int32) (saved : Int32) (mlen : Int32) (spot : Int32) (reads : Int32) (hash : Int64) (ms : Nat → Int32) (mpast : Nat → Int32) (mtext : Nat → Int32) (mread : Nat → Int32) (x1 : Int32) (x2 : Int32) {res : Int32 × Int32} (hf : fX7_plot thr ms x1 x2 = some res) : zMet l Δ yX7_plot cX7_plot 3 (some .int) 4 92 [.ref (ad 0), .int x1, .int x2] (wX7 Δ ad thr saved mlen spot reads hash ms mpast mtext mread) (wX7 Δ ad res.2 saved mlen spot reads hash ms mpast mtext mread) (some (.int res.1)) := by
  refine z_start (by decide +kernel) (Nat.le_of_ble_eq_true rfl) ?_
  intro p e s m args below meth c A ls X Z hl
  have hl : lv_has ls 3 [(0, .ref (ad 0)), (1, .int x1), (2, .int x2)] := hl
  rw [fX7_plot.eq_1] at hf
  refine lv_aload_n X.x X.b dX7_plot_0 rfl (lv_at hl 0 rfl) ?_
  refine lv_iload_n X.x X.b dX7_plot_1 rfl (lv_at hl 1 rfl) ?_
  refine lv_iconst (v := 0) X.x X.b dX7_plot_2 ki_0 ?_
  refine lv_iconst (v := 5) X.x X.b dX7_plot_3 ki_5 ?_
  obtain ⟨q1, hq1, hf⟩ := zb_ok hf
  refine z_callS X Z hl (mX7_in l Δ  x1 0 5 hq1) wd_870 wd_871 wd_68 wd_872 ok_X7_in (w' := (wX7 Δ ad thr saved mlen spot reads hash ms mpast mtext mread)) zSub_nil rfl zput_nil rfl (rest := [.ref (ad 0)]) rfl (Nat.le_of_ble_eq_true rfl) ⟨Nat.le_of_ble_eq_true rfl, Nat.le_of_ble_eq_true rfl⟩ ⟨Nat.zero_le _, Nat.zero_le _⟩ (st1 := [.int q1, .ref (ad 0)]) rfl dX7_plot_4 (fun H locs Z => ?_)
  refine lv_if_ne (tgt := 14) X.x X.b dX7_plot_7 (by decide) (fun b1 => ?_) (fun b1 => ?_)
  · have hf := zif_f b1 hf
    refine lv_iload_n X.x X.b dX7_plot_14 rfl (lv_at hl 2 rfl) ?_
    refine lv_iconst (v := 0) X.x X.b dX7_plot_15 ki_0 ?_
    refine lv_iconst (v := 3) X.x X.b dX7_plot_16 ki_3 ?_
    obtain ⟨q2, hq2, hf⟩ := zb_ok hf
    refine z_callS X Z hl (mX7_in l Δ  x2 0 3 hq2) wd_870 wd_871 wd_68 wd_872 ok_X7_in (w' := (wX7 Δ ad thr saved mlen spot reads hash ms mpast mtext mread)) zSub_nil rfl zput_nil rfl (rest := [.ref (ad 0)]) rfl (Nat.le_of_ble_eq_true rfl) ⟨Nat.le_of_ble_eq_true rfl, Nat.le_of_ble_eq_true rfl⟩ ⟨Nat.zero_le _, Nat.zero_le _⟩ (st1 := [.int q2, .ref (ad 0)]) rfl dX7_plot_17 (fun H locs Z => ?_)
    refine lv_if_eq (tgt := 27) X.x X.b dX7_plot_20 (by decide) (fun b2 => ?_) (fun b2 => ?_)
    · have hf := zif_t b2 hf
      refine lv_iconst (v := 2) X.x X.b dX7_plot_27 ki_2 ?_
      obtain ⟨q3, hq3, hf⟩ := zb_ok hf
      refine z_callV X Z hl (mX7_refuses l Δ ad thr saved mlen spot reads hash ms mpast mtext mread 2 hq3) wd_862 wd_864 wd_18 wd_68 wd_865 ok_X7_refuses 7 rfl 0 rfl (w' := (wX7 Δ ad q3.2 saved mlen spot reads hash ms mpast mtext mread)) su_16 fs_16 pu_16 rfl (rest := []) rfl (Nat.le_of_ble_eq_true rfl) ⟨Nat.le_of_ble_eq_true rfl, Nat.le_of_ble_eq_true rfl⟩ ⟨Nat.zero_le _, Nat.zero_le _⟩ (st1 := [.int q3.1]) rfl dX7_plot_28 (fun H locs Z => ?_)
      refine lv_if_eq (tgt := 38) X.x X.b dX7_plot_31 (by decide) (fun b3 => ?_) (fun b3 => ?_)
      · have hf := zif_t b3 hf
        refine lv_aload_n X.x X.b dX7_plot_38 rfl (lv_at hl 0 rfl) ?_
        refine lv_iload_n X.x X.b dX7_plot_39 rfl (lv_at hl 1 rfl) ?_
        refine lv_iload_n X.x X.b dX7_plot_40 rfl (lv_at hl 2 rfl) ?_
        obtain ⟨q4, hq4, hf⟩ := zb_ok hf
        refine z_callV X Z hl (mX7_plotOf l Δ ad q3.2 saved mlen spot reads hash ms mpast mtext mread x1 x2 hq4) wd_1050 wd_1052 wd_46 wd_68 wd_1053 ok_X7_plotOf 7 rfl 0 rfl (w' := (wX7 Δ ad q3.2 saved mlen spot reads hash ms mpast mtext mread)) su_16 fs_16 pu_16 rfl (rest := []) rfl (Nat.le_of_ble_eq_true rfl) ⟨Nat.le_of_ble_eq_true rfl, Nat.le_of_ble_eq_true rfl⟩ ⟨Nat.zero_le _, Nat.zero_le _⟩ (st1 := [.int q4]) rfl dX7_plot_41 (fun H locs Z => ?_)
        cases hf
        exact z_iret X Z dX7_plot_44
      · have hf := zif_f b3 hf
        refine lv_iconst (v := 0) X.x X.b dX7_plot_34 ki_0 ?_
        refine lv_goto (tgt := 44) X.x X.b dX7_plot_35 (by decide) ?_
        cases hf
        exact z_iret X Z dX7_plot_44
    · have hf := zif_f b2 hf
      refine lv_iconst (v := 0) X.x X.b dX7_plot_23 ki_0 ?_
      refine lv_goto (tgt := 28) X.x X.b dX7_plot_24 (by decide) ?_
      obtain ⟨q5, hq5, hf⟩ := zb_ok hf
      refine z_callV X Z hl (mX7_refuses l Δ ad thr saved mlen spot reads hash ms mpast mtext mread 0 hq5) wd_862 wd_864 wd_18 wd_68 wd_865 ok_X7_refuses 7 rfl 0 rfl (w' := (wX7 Δ ad q5.2 saved mlen spot reads hash ms mpast mtext mread)) su_16 fs_16 pu_16 rfl (rest := []) rfl (Nat.le_of_ble_eq_true rfl) ⟨Nat.le_of_ble_eq_true rfl, Nat.le_of_ble_eq_true rfl⟩ ⟨Nat.zero_le _, Nat.zero_le _⟩ (st1 := [.int q5.1]) rfl dX7_plot_28 (fun H locs Z => ?_)
      refine lv_if_eq (tgt := 38) X.x X.b dX7_plot_31 (by decide) (fun b4 => ?_) (fun b4 => ?_)
      · have hf := zif_t b4 hf
        refine lv_aload_n X.x X.b dX7_plot_38 rfl (lv_at hl 0 rfl) ?_
        refine lv_iload_n X.x X.b dX7_plot_39 rfl (lv_at hl 1 rfl) ?_
        refine lv_iload_n X.x X.b dX7_plot_40 rfl (lv_at hl 2 rfl) ?_
        obtain ⟨q6, hq6, hf⟩ := zb_ok hf
        refine z_callV X Z hl (mX7_plotOf l Δ ad q5.2 saved mlen spot reads hash ms mpast mtext mread x1 x2 hq6) wd_1050 wd_1052 wd_46 wd_68 wd_1053 ok_X7_plotOf 7 rfl 0 rfl (w' := (wX7 Δ ad q5.2 saved mlen spot reads hash ms mpast mtext mread)) su_16 fs_16 pu_16 rfl (rest := []) rfl (Nat.le_of_ble_eq_true rfl) ⟨Nat.le_of_ble_eq_true rfl, Nat.le_of_ble_eq_true rfl⟩ ⟨Nat.zero_le _, Nat.zero_le _⟩ (st1 := [.int q6]) rfl dX7_plot_41 (fun H locs Z => ?_)
        cases hf
        exact z_iret X Z dX7_plot_44
      · have hf := zif_f b4 hf
        refine lv_iconst (v := 0) X.x X.b dX7_plot_34 ki_0 ?_
        refine lv_goto (tgt := 44) X.x X.b dX7_plot_35 (by decide) ?_
        cases hf
        exact z_iret X Z dX7_plot_44
  · have hf := zif_t b1 hf
    refine lv_iconst (v := 1) X.x X.b dX7_plot_10 ki_1 ?_
    refine lv_goto (tgt := 28) X.x X.b dX7_plot_11 (by decide) ?_
    obtain ⟨q7, hq7, hf⟩ := zb_ok hf
    refine z_callV X Z hl (mX7_refuses l Δ ad thr saved mlen spot reads hash ms mpast mtext mread 1 hq7) wd_862 wd_864 wd_18 wd_68 wd_865 ok_X7_refuses 7 rfl 0 rfl (w' := (wX7 Δ ad q7.2 saved mlen spot reads hash ms mpast mtext mread)) su_16 fs_16 pu_16 rfl (rest := []) rfl (Nat.le_of_ble_eq_true rfl) ⟨Nat.le_of_ble_eq_true rfl, Nat.le_of_ble_eq_true rfl⟩ ⟨Nat.zero_le _, Nat.zero_le _⟩ (st1 := [.int q7.1]) rfl dX7_plot_28 (fun H locs Z => ?_)
    refine lv_if_eq (tgt := 38) X.x X.b dX7_plot_31 (by decide) (fun b5 => ?_) (fun b5 => ?_)
    · have hf := zif_t b5 hf
      refine lv_aload_n X.x X.b dX7_plot_38 rfl (lv_at hl 0 rfl) ?_
      refine lv_iload_n X.x X.b dX7_plot_39 rfl (lv_at hl 1 rfl) ?_
      refine lv_iload_n X.x X.b dX7_plot_40 rfl (lv_at hl 2 rfl) ?_
      obtain ⟨q8, hq8, hf⟩ := zb_ok hf
      refine z_callV X Z hl (mX7_plotOf l Δ ad q7.2 saved mlen spot reads hash ms mpast mtext mread x1 x2 hq8) wd_1050 wd_1052 wd_46 wd_68 wd_1053 ok_X7_plotOf 7 rfl 0 rfl (w' := (wX7 Δ ad q7.2 saved mlen spot reads hash ms mpast mtext mread)) su_16 fs_16 pu_16 rfl (rest := []) rfl (Nat.le_of_ble_eq_true rfl) ⟨Nat.le_of_ble_eq_true rfl, Nat.le_of_ble_eq_true rfl⟩ ⟨Nat.zero_le _, Nat.zero_le _⟩ (st1 := [.int q8]) rfl dX7_plot_41 (fun H locs Z => ?_)
      cases hf
      exact z_iret X Z dX7_plot_44
    · have hf := zif_f b5 hf
      refine lv_iconst (v := 0) X.x X.b dX7_plot_34 ki_0 ?_
      refine lv_goto (tgt := 44) X.x X.b dX7_plot_35 (by decide) ?_
      cases hf
      exact z_iret X Z dX7_plot_44
set_option maxRecDepth 100000 in
set_option maxHeartbeats 4000000 in
theorem mX7_allWords (l : Launch) (Δ : zE) (ad : Nat → Nat) (thr : Int32) (saved : Int32) (mlen : Int32) (spot : Int32) (reads : Int32) (hash : Int64) (ms : Nat → Int32) (mpast : Nat → Int32) (mtext : Nat → Int32) (mread : Nat → Int32)  {res : Int32} (hf : fX7_allWords ms = some res) : zMet l Δ yX7_allWords cX7_allWords 3 (some .int) 1 22 [.ref (ad 0)] (wX7 Δ ad thr saved mlen spot reads hash ms mpast mtext mread) (wX7 Δ ad thr saved mlen spot reads hash ms mpast mtext mread) (some (.int res)) := by
  refine z_start (by decide +kernel) (Nat.le_of_ble_eq_true rfl) ?_
  intro p e s m args below meth c A ls X Z hl
  have hl : lv_has ls 3 [(0, .ref (ad 0))] := hl
  have L4 : ∀ (k : Nat) (ms : Nat → Int32) (v1 : Int32) (v2 : Int32), fX7_allWords_4 k ms v1 v2 = some res → ∀ (H : Heap) (locs : List Loc) (ls : Array Slot), zW Δ A s.heap (wX7 Δ ad thr saved mlen spot reads hash ms mpast mtext mread) H locs → lv_has ls 3 [(0, .ref (ad 0)), (1, .int v1), (2, .int v2)] → W p l e { frames := 1, cells := 0, slots := 0, locals := 22 } s m args below meth c H locs 0 0 (zEnd Δ below args s 0 0 A (some (.int res)) (wX7 Δ ad thr saved mlen spot reads hash ms mpast mtext mread)) (F0 m 4 ls []) := by
    intro k
    induction k with
    | zero =>
      intro ms v1 v2 hf
      rw [fX7_allWords_4.eq_1] at hf
      cases hf
    | succ k ih =>
      intro ms v1 v2 hf H locs ls Z hl
      rw [fX7_allWords_4.eq_2] at hf
      refine lv_iload_n X.x X.b dX7_allWords_4 rfl (lv_at hl 2 rfl) ?_
      refine lv_aload_n X.x X.b dX7_allWords_5 rfl (lv_at hl 0 rfl) ?_
      refine z_gf inG_X7 (ci := 7) rfl 1 (Nat.le_of_ble_eq_true rfl) rfl X Z wd_823 0 rfl (v := .ref (ad 1)) rfl dX7_allWords_6 ?_
      refine lv_iconst (v := 0) X.x X.b dX7_allWords_9 ki_0 ?_
      refine z_iald X Z 1 rfl (zvin (by decide)) dX7_allWords_10 ?_
      refine lv_icmp_ge (tgt := 29) X.x X.b dX7_allWords_11 (by decide) (fun b1 => ?_) (fun b1 => ?_)
      · have hf := zif_t b1 hf
        refine lv_iload_n X.x X.b dX7_allWords_29 rfl (lv_at hl 1 rfl) ?_
        cases hf
        exact z_iret X Z dX7_allWords_30
      · have hf := zif_f b1 hf
        refine lv_iload_n X.x X.b dX7_allWords_14 rfl (lv_at hl 1 rfl) ?_
        refine lv_aload_n X.x X.b dX7_allWords_15 rfl (lv_at hl 0 rfl) ?_
        refine lv_iload_n X.x X.b dX7_allWords_16 rfl (lv_at hl 2 rfl) ?_
        refine lv_iconst (v := 2) X.x X.b dX7_allWords_17 ki_2 ?_
        obtain ⟨q1, hq1, hf⟩ := zb_ok hf
        refine z_callV X Z hl (mX7_of l Δ ad thr saved mlen spot reads hash ms mpast mtext mread v2 2 hq1) wd_896 wd_898 wd_23 wd_68 wd_899 ok_X7_of 7 rfl 0 rfl (w' := (wX7 Δ ad thr saved mlen spot reads hash ms mpast mtext mread)) su_16 fs_16 pu_16 rfl (rest := [.int v1]) rfl (Nat.le_of_ble_eq_true rfl) ⟨Nat.le_of_ble_eq_true rfl, Nat.le_of_ble_eq_true rfl⟩ ⟨Nat.zero_le _, Nat.zero_le _⟩ (st1 := [.int q1, .int v1]) rfl dX7_allWords_18 (fun H locs Z => ?_)
        refine lv_iadd X.x X.b dX7_allWords_21 ?_
        refine lv_istore_n (lv' := [(1, .int (v1 + q1)), (0, .ref (ad 0)), (2, .int v2)]) X.x X.b dX7_allWords_22 rfl hl (Nat.le_of_ble_eq_true rfl) rfl (fun ls hl => ?_)
        refine lv_iinc (v := (v2 + 1)) (lv' := [(2, .int (v2 + 1)), (1, .int (v1 + q1)), (0, .ref (ad 0))]) X.x X.b dX7_allWords_23 hl (k := 2) rfl (congrArg _ ki_1) (Nat.le_of_ble_eq_true rfl) rfl (fun ls hl => ?_)
        refine lv_goto (tgt := 4) X.x X.b dX7_allWords_26 (by decide) ?_
        exact ih ms (v1 + q1) (v2 + 1) hf _ _ _ Z (lv_sub hl [2, 1, 0] rfl)
  rw [fX7_allWords.eq_1] at hf
  refine lv_iconst (v := 0) X.x X.b dX7_allWords_0 ki_0 ?_
  refine lv_istore_n (lv' := [(1, .int 0), (0, .ref (ad 0))]) X.x X.b dX7_allWords_1 rfl hl (Nat.le_of_ble_eq_true rfl) rfl (fun ls hl => ?_)
  refine lv_iconst (v := 0) X.x X.b dX7_allWords_2 ki_0 ?_
  refine lv_istore_n (lv' := [(2, .int 0), (1, .int 0), (0, .ref (ad 0))]) X.x X.b dX7_allWords_3 rfl hl (Nat.le_of_ble_eq_true rfl) rfl (fun ls hl => ?_)
  exact L4 zfuel ms 0 0 hf _ _ _ Z (lv_sub hl [2, 1, 0] rfl)
set_option maxRecDepth 100000 in
set_option maxHeartbeats 4000000 in
theorem mX7_wordsRead (l : Launch) (Δ : zE) (ad : Nat → Nat) (thr : Int32) (saved : Int32) (mlen : Int32) (spot : Int32) (reads : Int32) (hash : Int64) (ms : Nat → Int32) (mpast : Nat → Int32) (mtext : Nat → Int32) (mread : Nat → Int32)  {res : Int32} (hf : fX7_wordsRead ms = some res) : zMet l Δ yX7_wordsRead cX7_wordsRead 3 (some .int) 0 0 [.ref (ad 0)] (wX7 Δ ad thr saved mlen spot reads hash ms mpast mtext mread) (wX7 Δ ad thr saved mlen spot reads hash ms mpast mtext mread) (some (.int res)) := by
  refine z_start (by decide +kernel) (Nat.le_of_ble_eq_true rfl) ?_
  intro p e s m args below meth c A ls X Z hl
  have hl : lv_has ls 3 [(0, .ref (ad 0))] := hl
  have L4 : ∀ (k : Nat) (ms : Nat → Int32) (v1 : Int32) (v2 : Int32), fX7_wordsRead_4 k ms v1 v2 = some res → ∀ (H : Heap) (locs : List Loc) (ls : Array Slot), zW Δ A s.heap (wX7 Δ ad thr saved mlen spot reads hash ms mpast mtext mread) H locs → lv_has ls 3 [(0, .ref (ad 0)), (1, .int v1), (2, .int v2)] → W p l e { frames := 0, cells := 0, slots := 0, locals := 0 } s m args below meth c H locs 0 0 (zEnd Δ below args s 0 0 A (some (.int res)) (wX7 Δ ad thr saved mlen spot reads hash ms mpast mtext mread)) (F0 m 4 ls []) := by
    intro k
    induction k with
    | zero =>
      intro ms v1 v2 hf
      rw [fX7_wordsRead_4.eq_1] at hf
      cases hf
    | succ k ih =>
      intro ms v1 v2 hf H locs ls Z hl
      rw [fX7_wordsRead_4.eq_2] at hf
      refine lv_iload_n X.x X.b dX7_wordsRead_4 rfl (lv_at hl 2 rfl) ?_
      refine lv_bipush (v := 6) X.x X.b dX7_wordsRead_5 kb_6 ?_
      refine lv_icmp_ge (tgt := 30) X.x X.b dX7_wordsRead_7 (by decide) (fun b1 => ?_) (fun b1 => ?_)
      · have hf := zif_t b1 hf
        refine lv_iload_n X.x X.b dX7_wordsRead_30 rfl (lv_at hl 1 rfl) ?_
        cases hf
        exact z_iret X Z dX7_wordsRead_31
      · have hf := zif_f b1 hf
        refine lv_iload_n X.x X.b dX7_wordsRead_10 rfl (lv_at hl 1 rfl) ?_
        refine lv_aload_n X.x X.b dX7_wordsRead_11 rfl (lv_at hl 0 rfl) ?_
        refine z_gf inG_X7 (ci := 7) rfl 1 (Nat.le_of_ble_eq_true rfl) rfl X Z wd_823 0 rfl (v := .ref (ad 1)) rfl dX7_wordsRead_12 ?_
        refine lv_bipush (v := 65) X.x X.b dX7_wordsRead_15 kb_65 ?_
        refine lv_iconst (v := 3) X.x X.b dX7_wordsRead_17 ki_3 ?_
        refine lv_iload_n X.x X.b dX7_wordsRead_18 rfl (lv_at hl 2 rfl) ?_
        refine lv_imul X.x X.b dX7_wordsRead_19 ?_
        refine lv_iadd X.x X.b dX7_wordsRead_20 ?_
        obtain ⟨b2, hf⟩ := zg_in hf
        refine z_iald X Z 1 rfl b2 dX7_wordsRead_21 ?_
        refine lv_iadd X.x X.b dX7_wordsRead_22 ?_
        refine lv_istore_n (lv' := [(1, .int (v1 + (ms (65 + (3 * v2)).toNatClampNeg))), (0, .ref (ad 0)), (2, .int v2)]) X.x X.b dX7_wordsRead_23 rfl hl (Nat.le_of_ble_eq_true rfl) rfl (fun ls hl => ?_)
        refine lv_iinc (v := (v2 + 1)) (lv' := [(2, .int (v2 + 1)), (1, .int (v1 + (ms (65 + (3 * v2)).toNatClampNeg))), (0, .ref (ad 0))]) X.x X.b dX7_wordsRead_24 hl (k := 2) rfl (congrArg _ ki_1) (Nat.le_of_ble_eq_true rfl) rfl (fun ls hl => ?_)
        refine lv_goto (tgt := 4) X.x X.b dX7_wordsRead_27 (by decide) ?_
        exact ih ms (v1 + (ms (65 + (3 * v2)).toNatClampNeg)) (v2 + 1) hf _ _ _ Z (lv_sub hl [2, 1, 0] rfl)
  rw [fX7_wordsRead.eq_1] at hf
  refine lv_iconst (v := 0) X.x X.b dX7_wordsRead_0 ki_0 ?_
  refine lv_istore_n (lv' := [(1, .int 0), (0, .ref (ad 0))]) X.x X.b dX7_wordsRead_1 rfl hl (Nat.le_of_ble_eq_true rfl) rfl (fun ls hl => ?_)
  refine lv_iconst (v := 0) X.x X.b dX7_wordsRead_2 ki_0 ?_
  refine lv_istore_n (lv' := [(2, .int 0), (1, .int 0), (0, .ref (ad 0))]) X.x X.b dX7_wordsRead_3 rfl hl (Nat.le_of_ble_eq_true rfl) rfl (fun ls hl => ?_)
  exact L4 zfuel ms 0 0 hf _ _ _ Z (lv_sub hl [2, 1, 0] rfl)
set_option maxRecDepth 100000 in
set_option maxHeartbeats 4000000 in
theorem mX7_knowAll (l : Launch) (Δ : zE) (ad : Nat → Nat) (thr : Int32) (saved : Int32) (mlen : Int32) (spot : Int32) (reads : Int32) (hash : Int64) (ms : Nat → Int32) (mpast : Nat → Int32) (mtext : Nat → Int32) (mread : Nat → Int32)  {res : Int32} (hf : fX7_knowAll ms = some res) : zMet l Δ yX7_knowAll cX7_knowAll 3 (some .int) 2 45 [.ref (ad 0)] (wX7 Δ ad thr saved mlen spot reads hash ms mpast mtext mread) (wX7 Δ ad thr saved mlen spot reads hash ms mpast mtext mread) (some (.int res)) := by
  refine z_start (by decide +kernel) (Nat.le_of_ble_eq_true rfl) ?_
  intro p e s m args below meth c A ls X Z hl
  have hl : lv_has ls 3 [(0, .ref (ad 0))] := hl
  have L4 : ∀ (k : Nat) (ms : Nat → Int32) (v1 : Int32) (v2 : Int32), fX7_knowAll_4 k ms v1 v2 = some res → ∀ (H : Heap) (locs : List Loc) (ls : Array Slot), zW Δ A s.heap (wX7 Δ ad thr saved mlen spot reads hash ms mpast mtext mread) H locs → lv_has ls 3 [(0, .ref (ad 0)), (1, .int v1), (2, .int v2)] → W p l e { frames := 2, cells := 0, slots := 0, locals := 45 } s m args below meth c H locs 0 0 (zEnd Δ below args s 0 0 A (some (.int res)) (wX7 Δ ad thr saved mlen spot reads hash ms mpast mtext mread)) (F0 m 4 ls []) := by
    intro k
    induction k with
    | zero =>
      intro ms v1 v2 hf
      rw [fX7_knowAll_4.eq_1] at hf
      cases hf
    | succ k ih =>
      intro ms v1 v2 hf H locs ls Z hl
      rw [fX7_knowAll_4.eq_2] at hf
      refine lv_iload_n X.x X.b dX7_knowAll_4 rfl (lv_at hl 2 rfl) ?_
      refine lv_bipush (v := 6) X.x X.b dX7_knowAll_5 kb_6 ?_
      refine lv_icmp_ge (tgt := 32) X.x X.b dX7_knowAll_7 (by decide) (fun b1 => ?_) (fun b1 => ?_)
      · have hf := zif_t b1 hf
        refine lv_iload_n X.x X.b dX7_knowAll_32 rfl (lv_at hl 1 rfl) ?_
        cases hf
        exact z_iret X Z dX7_knowAll_33
      · have hf := zif_f b1 hf
        refine lv_iload_n X.x X.b dX7_knowAll_10 rfl (lv_at hl 1 rfl) ?_
        refine lv_aload_n X.x X.b dX7_knowAll_11 rfl (lv_at hl 0 rfl) ?_
        refine lv_iload_n X.x X.b dX7_knowAll_12 rfl (lv_at hl 2 rfl) ?_
        obtain ⟨q1, hq1, hf⟩ := zb_ok hf
        refine z_callV X Z hl (mX7_unknown l Δ ad thr saved mlen spot reads hash ms mpast mtext mread v2 hq1) wd_934 wd_936 wd_28 wd_68 wd_937 ok_X7_unknown 7 rfl 0 rfl (w' := (wX7 Δ ad thr saved mlen spot reads hash ms mpast mtext mread)) su_16 fs_16 pu_16 rfl (rest := [.int v1]) rfl (Nat.le_of_ble_eq_true rfl) ⟨Nat.le_of_ble_eq_true rfl, Nat.le_of_ble_eq_true rfl⟩ ⟨Nat.zero_le _, Nat.zero_le _⟩ (st1 := [.int q1, .int v1]) rfl dX7_knowAll_13 (fun H locs Z => ?_)
        refine lv_if_ne (tgt := 23) X.x X.b dX7_knowAll_16 (by decide) (fun b2 => ?_) (fun b2 => ?_)
        · have hf := zif_f b2 hf
          refine lv_iconst (v := 0) X.x X.b dX7_knowAll_23 ki_0 ?_
          refine lv_iadd X.x X.b dX7_knowAll_24 ?_
          refine lv_istore_n (lv' := [(1, .int (v1 + 0)), (0, .ref (ad 0)), (2, .int v2)]) X.x X.b dX7_knowAll_25 rfl hl (Nat.le_of_ble_eq_true rfl) rfl (fun ls hl => ?_)
          refine lv_iinc (v := (v2 + 1)) (lv' := [(2, .int (v2 + 1)), (1, .int (v1 + 0)), (0, .ref (ad 0))]) X.x X.b dX7_knowAll_26 hl (k := 2) rfl (congrArg _ ki_1) (Nat.le_of_ble_eq_true rfl) rfl (fun ls hl => ?_)
          refine lv_goto (tgt := 4) X.x X.b dX7_knowAll_29 (by decide) ?_
          exact ih ms (v1 + 0) (v2 + 1) hf _ _ _ Z (lv_sub hl [2, 1, 0] rfl)
        · have hf := zif_t b2 hf
          refine lv_iconst (v := 1) X.x X.b dX7_knowAll_19 ki_1 ?_
          refine lv_goto (tgt := 24) X.x X.b dX7_knowAll_20 (by decide) ?_
          refine lv_iadd X.x X.b dX7_knowAll_24 ?_
          refine lv_istore_n (lv' := [(1, .int (v1 + 1)), (0, .ref (ad 0)), (2, .int v2)]) X.x X.b dX7_knowAll_25 rfl hl (Nat.le_of_ble_eq_true rfl) rfl (fun ls hl => ?_)
          refine lv_iinc (v := (v2 + 1)) (lv' := [(2, .int (v2 + 1)), (1, .int (v1 + 1)), (0, .ref (ad 0))]) X.x X.b dX7_knowAll_26 hl (k := 2) rfl (congrArg _ ki_1) (Nat.le_of_ble_eq_true rfl) rfl (fun ls hl => ?_)
          refine lv_goto (tgt := 4) X.x X.b dX7_knowAll_29 (by decide) ?_
          exact ih ms (v1 + 1) (v2 + 1) hf _ _ _ Z (lv_sub hl [2, 1, 0] rfl)
  rw [fX7_knowAll.eq_1] at hf
  refine lv_iconst (v := 0) X.x X.b dX7_knowAll_0 ki_0 ?_
  refine lv_istore_n (lv' := [(1, .int 0), (0, .ref (ad 0))]) X.x X.b dX7_knowAll_1 rfl hl (Nat.le_of_ble_eq_true rfl) rfl (fun ls hl => ?_)
  refine lv_iconst (v := 0) X.x X.b dX7_knowAll_2 ki_0 ?_
  refine lv_istore_n (lv' := [(2, .int 0), (1, .int 0), (0, .ref (ad 0))]) X.x X.b dX7_knowAll_3 rfl hl (Nat.le_of_ble_eq_true rfl) rfl (fun ls hl => ?_)
  exact L4 zfuel ms 0 0 hf _ _ _ Z (lv_sub hl [2, 1, 0] rfl)
set_option maxRecDepth 100000 in
set_option maxHeartbeats 4000000 in
theorem mX7_counted (l : Launch) (Δ : zE) (ad : Nat → Nat) (thr : Int32) (saved : Int32) (mlen : Int32) (spot : Int32) (reads : Int32) (hash : Int64) (ms : Nat → Int32) (mpast : Nat → Int32) (mtext : Nat → Int32) (mread : Nat → Int32) (x1 : Int32) {res : Int32} (hf : fX7_counted saved ms x1 = some res) : zMet l Δ yX7_counted cX7_counted 2 (some .int) 3 67 [.ref (ad 0), .int x1] (wX7 Δ ad thr saved mlen spot reads hash ms mpast mtext mread) (wX7 Δ ad thr saved mlen spot reads hash ms mpast mtext mread) (some (.int res)) := by
  refine z_start (by decide +kernel) (Nat.le_of_ble_eq_true rfl) ?_
  intro p e s m args below meth c A ls X Z hl
  have hl : lv_has ls 2 [(0, .ref (ad 0)), (1, .int x1)] := hl
  rw [fX7_counted.eq_1] at hf
  refine lv_iload_n X.x X.b dX7_counted_0 rfl (lv_at hl 1 rfl) ?_
  by_cases b1 : x1 = 0
  · have hf := zif_t b1 hf
    refine lv_tableIn (tgt := 40) X.x X.b dX7_counted_1 (zt_lo b1 (by decide)) (zt_hi b1 (by decide)) (zt_at (off := 39) b1 rfl) (by decide) ?_
    refine lv_aload_n X.x X.b dX7_counted_40 rfl (lv_at hl 0 rfl) ?_
    refine z_gf inG_X7 (ci := 7) rfl 1 (Nat.le_of_ble_eq_true rfl) rfl X Z wd_823 0 rfl (v := .ref (ad 1)) rfl dX7_counted_41 ?_
    refine lv_iconst (v := 0) X.x X.b dX7_counted_44 ki_0 ?_
    refine z_iald X Z 1 rfl (zvin (by decide)) dX7_counted_45 ?_
    cases hf
    exact z_iret X Z dX7_counted_46
  · have hf := zif_f b1 hf
    by_cases b2 : x1 = 1
    · have hf := zif_t b2 hf
      refine lv_tableIn (tgt := 47) X.x X.b dX7_counted_1 (zt_lo b2 (by decide)) (zt_hi b2 (by decide)) (zt_at (off := 46) b2 rfl) (by decide) ?_
      refine lv_aload_n X.x X.b dX7_counted_47 rfl (lv_at hl 0 rfl) ?_
      obtain ⟨q1, hq1, hf⟩ := zb_ok hf
      refine z_callV X Z hl (mX7_allWords l Δ ad thr saved mlen spot reads hash ms mpast mtext mread hq1) wd_1074 wd_1076 wd_51 wd_68 wd_1077 ok_X7_allWords 7 rfl 0 rfl (w' := (wX7 Δ ad thr saved mlen spot reads hash ms mpast mtext mread)) su_16 fs_16 pu_16 rfl (rest := []) rfl (Nat.le_of_ble_eq_true rfl) ⟨Nat.le_of_ble_eq_true rfl, Nat.le_of_ble_eq_true rfl⟩ ⟨Nat.zero_le _, Nat.zero_le _⟩ (st1 := [.int q1]) rfl dX7_counted_48 (fun H locs Z => ?_)
      cases hf
      exact z_iret X Z dX7_counted_51
    · have hf := zif_f b2 hf
      by_cases b3 : x1 = 2
      · have hf := zif_t b3 hf
        refine lv_tableIn (tgt := 52) X.x X.b dX7_counted_1 (zt_lo b3 (by decide)) (zt_hi b3 (by decide)) (zt_at (off := 51) b3 rfl) (by decide) ?_
        refine lv_aload_n X.x X.b dX7_counted_52 rfl (lv_at hl 0 rfl) ?_
        refine z_gf inG_X7 (ci := 7) rfl 1 (Nat.le_of_ble_eq_true rfl) rfl X Z wd_823 0 rfl (v := .ref (ad 1)) rfl dX7_counted_53 ?_
        refine lv_iconst (v := 3) X.x X.b dX7_counted_56 ki_3 ?_
        refine lv_iload_n X.x X.b dX7_counted_57 rfl (lv_at hl 1 rfl) ?_
        refine lv_iadd X.x X.b dX7_counted_58 ?_
        refine lv_iconst (v := 2) X.x X.b dX7_counted_59 ki_2 ?_
        refine lv_isub X.x X.b dX7_counted_60 ?_
        obtain ⟨b4, hf⟩ := zg_in hf
        refine z_iald X Z 1 rfl b4 dX7_counted_61 ?_
        cases hf
        exact z_iret X Z dX7_counted_62
      · have hf := zif_f b3 hf
        by_cases b5 : x1 = 3
        · have hf := zif_t b5 hf
          refine lv_tableIn (tgt := 52) X.x X.b dX7_counted_1 (zt_lo b5 (by decide)) (zt_hi b5 (by decide)) (zt_at (off := 51) b5 rfl) (by decide) ?_
          refine lv_aload_n X.x X.b dX7_counted_52 rfl (lv_at hl 0 rfl) ?_
          refine z_gf inG_X7 (ci := 7) rfl 1 (Nat.le_of_ble_eq_true rfl) rfl X Z wd_823 0 rfl (v := .ref (ad 1)) rfl dX7_counted_53 ?_
          refine lv_iconst (v := 3) X.x X.b dX7_counted_56 ki_3 ?_
          refine lv_iload_n X.x X.b dX7_counted_57 rfl (lv_at hl 1 rfl) ?_
          refine lv_iadd X.x X.b dX7_counted_58 ?_
          refine lv_iconst (v := 2) X.x X.b dX7_counted_59 ki_2 ?_
          refine lv_isub X.x X.b dX7_counted_60 ?_
          obtain ⟨b6, hf⟩ := zg_in hf
          refine z_iald X Z 1 rfl b6 dX7_counted_61 ?_
          cases hf
          exact z_iret X Z dX7_counted_62
        · have hf := zif_f b5 hf
          by_cases b7 : x1 = 4
          · have hf := zif_t b7 hf
            refine lv_tableIn (tgt := 63) X.x X.b dX7_counted_1 (zt_lo b7 (by decide)) (zt_hi b7 (by decide)) (zt_at (off := 62) b7 rfl) (by decide) ?_
            refine lv_aload_n X.x X.b dX7_counted_63 rfl (lv_at hl 0 rfl) ?_
            obtain ⟨q2, hq2, hf⟩ := zb_ok hf
            refine z_callV X Z hl (mX7_wordsRead l Δ ad thr saved mlen spot reads hash ms mpast mtext mread hq2) wd_1078 wd_1080 wd_52 wd_68 wd_1081 ok_X7_wordsRead 7 rfl 0 rfl (w' := (wX7 Δ ad thr saved mlen spot reads hash ms mpast mtext mread)) su_16 fs_16 pu_16 rfl (rest := []) rfl (Nat.le_of_ble_eq_true rfl) ⟨Nat.le_of_ble_eq_true rfl, Nat.le_of_ble_eq_true rfl⟩ ⟨Nat.zero_le _, Nat.zero_le _⟩ (st1 := [.int q2]) rfl dX7_counted_64 (fun H locs Z => ?_)
            cases hf
            exact z_iret X Z dX7_counted_67
          · have hf := zif_f b7 hf
            by_cases b8 : x1 = 5
            · have hf := zif_t b8 hf
              refine lv_tableIn (tgt := 68) X.x X.b dX7_counted_1 (zt_lo b8 (by decide)) (zt_hi b8 (by decide)) (zt_at (off := 67) b8 rfl) (by decide) ?_
              refine lv_aload_n X.x X.b dX7_counted_68 rfl (lv_at hl 0 rfl) ?_
              obtain ⟨q3, hq3, hf⟩ := zb_ok hf
              refine z_callV X Z hl (mX7_knowAll l Δ ad thr saved mlen spot reads hash ms mpast mtext mread hq3) wd_1082 wd_1084 wd_53 wd_68 wd_1085 ok_X7_knowAll 7 rfl 0 rfl (w' := (wX7 Δ ad thr saved mlen spot reads hash ms mpast mtext mread)) su_16 fs_16 pu_16 rfl (rest := []) rfl (Nat.le_of_ble_eq_true rfl) ⟨Nat.le_of_ble_eq_true rfl, Nat.le_of_ble_eq_true rfl⟩ ⟨Nat.zero_le _, Nat.zero_le _⟩ (st1 := [.int q3]) rfl dX7_counted_69 (fun H locs Z => ?_)
              cases hf
              exact z_iret X Z dX7_counted_72
            · have hf := zif_f b8 hf
              refine lv_tableOut (tgt := 73) X.x X.b dX7_counted_1 (by have := (x1 : Int32).toInt; have := zt_ne (n := 0) b1 (by decide); have := zt_ne (n := 1) b2 (by decide); have := zt_ne (n := 2) b3 (by decide); have := zt_ne (n := 3) b5 (by decide); have := zt_ne (n := 4) b7 (by decide); have := zt_ne (n := 5) b8 (by decide); omega) (by decide) ?_
              refine lv_aload_n X.x X.b dX7_counted_73 rfl (lv_at hl 0 rfl) ?_
              refine z_gf inG_X7 (ci := 7) rfl 3 (Nat.le_of_ble_eq_true rfl) rfl X Z wd_825 0 rfl (v := .int saved) rfl dX7_counted_74 ?_
              cases hf
              exact z_iret X Z dX7_counted_77
set_option maxRecDepth 100000 in
set_option maxHeartbeats 4000000 in
theorem mX7_count (l : Launch) (Δ : zE) (ad : Nat → Nat) (thr : Int32) (saved : Int32) (mlen : Int32) (spot : Int32) (reads : Int32) (hash : Int64) (ms : Nat → Int32) (mpast : Nat → Int32) (mtext : Nat → Int32) (mread : Nat → Int32) (x1 : Int32) {res : Int32 × Int32} (hf : fX7_count thr saved ms x1 = some res) : zMet l Δ yX7_count cX7_count 2 (some .int) 4 88 [.ref (ad 0), .int x1] (wX7 Δ ad thr saved mlen spot reads hash ms mpast mtext mread) (wX7 Δ ad res.2 saved mlen spot reads hash ms mpast mtext mread) (some (.int res.1)) := by
  refine z_start (by decide +kernel) (Nat.le_of_ble_eq_true rfl) ?_
  intro p e s m args below meth c A ls X Z hl
  have hl : lv_has ls 2 [(0, .ref (ad 0)), (1, .int x1)] := hl
  rw [fX7_count.eq_1] at hf
  refine lv_aload_n X.x X.b dX7_count_0 rfl (lv_at hl 0 rfl) ?_
  refine lv_iload_n X.x X.b dX7_count_1 rfl (lv_at hl 1 rfl) ?_
  refine lv_iconst (v := 0) X.x X.b dX7_count_2 ki_0 ?_
  refine lv_bipush (v := 6) X.x X.b dX7_count_3 kb_6 ?_
  obtain ⟨q1, hq1, hf⟩ := zb_ok hf
  refine z_callS X Z hl (mX7_in l Δ  x1 0 6 hq1) wd_870 wd_871 wd_68 wd_872 ok_X7_in (w' := (wX7 Δ ad thr saved mlen spot reads hash ms mpast mtext mread)) zSub_nil rfl zput_nil rfl (rest := [.ref (ad 0)]) rfl (Nat.le_of_ble_eq_true rfl) ⟨Nat.le_of_ble_eq_true rfl, Nat.le_of_ble_eq_true rfl⟩ ⟨Nat.zero_le _, Nat.zero_le _⟩ (st1 := [.int q1, .ref (ad 0)]) rfl dX7_count_5 (fun H locs Z => ?_)
  refine lv_if_eq (tgt := 15) X.x X.b dX7_count_8 (by decide) (fun b1 => ?_) (fun b1 => ?_)
  · have hf := zif_t b1 hf
    refine lv_iconst (v := 1) X.x X.b dX7_count_15 ki_1 ?_
    obtain ⟨q2, hq2, hf⟩ := zb_ok hf
    refine z_callV X Z hl (mX7_refuses l Δ ad thr saved mlen spot reads hash ms mpast mtext mread 1 hq2) wd_862 wd_864 wd_18 wd_68 wd_865 ok_X7_refuses 7 rfl 0 rfl (w' := (wX7 Δ ad q2.2 saved mlen spot reads hash ms mpast mtext mread)) su_16 fs_16 pu_16 rfl (rest := []) rfl (Nat.le_of_ble_eq_true rfl) ⟨Nat.le_of_ble_eq_true rfl, Nat.le_of_ble_eq_true rfl⟩ ⟨Nat.zero_le _, Nat.zero_le _⟩ (st1 := [.int q2.1]) rfl dX7_count_16 (fun H locs Z => ?_)
    refine lv_if_eq (tgt := 26) X.x X.b dX7_count_19 (by decide) (fun b2 => ?_) (fun b2 => ?_)
    · have hf := zif_t b2 hf
      refine lv_aload_n X.x X.b dX7_count_26 rfl (lv_at hl 0 rfl) ?_
      refine lv_iload_n X.x X.b dX7_count_27 rfl (lv_at hl 1 rfl) ?_
      obtain ⟨q3, hq3, hf⟩ := zb_ok hf
      refine z_callV X Z hl (mX7_counted l Δ ad q2.2 saved mlen spot reads hash ms mpast mtext mread x1 hq3) wd_1070 wd_1072 wd_50 wd_68 wd_1073 ok_X7_counted 7 rfl 0 rfl (w' := (wX7 Δ ad q2.2 saved mlen spot reads hash ms mpast mtext mread)) su_16 fs_16 pu_16 rfl (rest := []) rfl (Nat.le_of_ble_eq_true rfl) ⟨Nat.le_of_ble_eq_true rfl, Nat.le_of_ble_eq_true rfl⟩ ⟨Nat.zero_le _, Nat.zero_le _⟩ (st1 := [.int q3]) rfl dX7_count_28 (fun H locs Z => ?_)
      cases hf
      exact z_iret X Z dX7_count_31
    · have hf := zif_f b2 hf
      refine lv_iconst (v := 0) X.x X.b dX7_count_22 ki_0 ?_
      refine lv_goto (tgt := 31) X.x X.b dX7_count_23 (by decide) ?_
      cases hf
      exact z_iret X Z dX7_count_31
  · have hf := zif_f b1 hf
    refine lv_iconst (v := 0) X.x X.b dX7_count_11 ki_0 ?_
    refine lv_goto (tgt := 16) X.x X.b dX7_count_12 (by decide) ?_
    obtain ⟨q4, hq4, hf⟩ := zb_ok hf
    refine z_callV X Z hl (mX7_refuses l Δ ad thr saved mlen spot reads hash ms mpast mtext mread 0 hq4) wd_862 wd_864 wd_18 wd_68 wd_865 ok_X7_refuses 7 rfl 0 rfl (w' := (wX7 Δ ad q4.2 saved mlen spot reads hash ms mpast mtext mread)) su_16 fs_16 pu_16 rfl (rest := []) rfl (Nat.le_of_ble_eq_true rfl) ⟨Nat.le_of_ble_eq_true rfl, Nat.le_of_ble_eq_true rfl⟩ ⟨Nat.zero_le _, Nat.zero_le _⟩ (st1 := [.int q4.1]) rfl dX7_count_16 (fun H locs Z => ?_)
    refine lv_if_eq (tgt := 26) X.x X.b dX7_count_19 (by decide) (fun b3 => ?_) (fun b3 => ?_)
    · have hf := zif_t b3 hf
      refine lv_aload_n X.x X.b dX7_count_26 rfl (lv_at hl 0 rfl) ?_
      refine lv_iload_n X.x X.b dX7_count_27 rfl (lv_at hl 1 rfl) ?_
      obtain ⟨q5, hq5, hf⟩ := zb_ok hf
      refine z_callV X Z hl (mX7_counted l Δ ad q4.2 saved mlen spot reads hash ms mpast mtext mread x1 hq5) wd_1070 wd_1072 wd_50 wd_68 wd_1073 ok_X7_counted 7 rfl 0 rfl (w' := (wX7 Δ ad q4.2 saved mlen spot reads hash ms mpast mtext mread)) su_16 fs_16 pu_16 rfl (rest := []) rfl (Nat.le_of_ble_eq_true rfl) ⟨Nat.le_of_ble_eq_true rfl, Nat.le_of_ble_eq_true rfl⟩ ⟨Nat.zero_le _, Nat.zero_le _⟩ (st1 := [.int q5]) rfl dX7_count_28 (fun H locs Z => ?_)
      cases hf
      exact z_iret X Z dX7_count_31
    · have hf := zif_f b3 hf
      refine lv_iconst (v := 0) X.x X.b dX7_count_22 ki_0 ?_
      refine lv_goto (tgt := 31) X.x X.b dX7_count_23 (by decide) ?_
      cases hf
      exact z_iret X Z dX7_count_31
set_option maxRecDepth 100000 in
set_option maxHeartbeats 4000000 in
theorem mX7_setting (l : Launch) (Δ : zE) (ad : Nat → Nat) (thr : Int32) (saved : Int32) (mlen : Int32) (spot : Int32) (reads : Int32) (hash : Int64) (ms : Nat → Int32) (mpast : Nat → Int32) (mtext : Nat → Int32) (mread : Nat → Int32) (x1 : Int32) {res : Int32 × Int32} (hf : fX7_setting thr ms x1 = some res) : zMet l Δ yX7_setting cX7_setting 2 (some .int) 1 22 [.ref (ad 0), .int x1] (wX7 Δ ad thr saved mlen spot reads hash ms mpast mtext mread) (wX7 Δ ad res.2 saved mlen spot reads hash ms mpast mtext mread) (some (.int res.1)) := by
  refine z_start (by decide +kernel) (Nat.le_of_ble_eq_true rfl) ?_
  intro p e s m args below meth c A ls X Z hl
  have hl : lv_has ls 2 [(0, .ref (ad 0)), (1, .int x1)] := hl
  rw [fX7_setting.eq_1] at hf
  refine lv_aload_n X.x X.b dX7_setting_0 rfl (lv_at hl 0 rfl) ?_
  refine lv_iload_n X.x X.b dX7_setting_1 rfl (lv_at hl 1 rfl) ?_
  refine lv_iconst (v := 0) X.x X.b dX7_setting_2 ki_0 ?_
  refine lv_iconst (v := 1) X.x X.b dX7_setting_3 ki_1 ?_
  obtain ⟨q1, hq1, hf⟩ := zb_ok hf
  refine z_callS X Z hl (mX7_in l Δ  x1 0 1 hq1) wd_870 wd_871 wd_68 wd_872 ok_X7_in (w' := (wX7 Δ ad thr saved mlen spot reads hash ms mpast mtext mread)) zSub_nil rfl zput_nil rfl (rest := [.ref (ad 0)]) rfl (Nat.le_of_ble_eq_true rfl) ⟨Nat.le_of_ble_eq_true rfl, Nat.le_of_ble_eq_true rfl⟩ ⟨Nat.zero_le _, Nat.zero_le _⟩ (st1 := [.int q1, .ref (ad 0)]) rfl dX7_setting_4 (fun H locs Z => ?_)
  refine lv_if_eq (tgt := 14) X.x X.b dX7_setting_7 (by decide) (fun b1 => ?_) (fun b1 => ?_)
  · have hf := zif_t b1 hf
    refine lv_iconst (v := 1) X.x X.b dX7_setting_14 ki_1 ?_
    obtain ⟨q2, hq2, hf⟩ := zb_ok hf
    refine z_callV X Z hl (mX7_refuses l Δ ad thr saved mlen spot reads hash ms mpast mtext mread 1 hq2) wd_862 wd_864 wd_18 wd_68 wd_865 ok_X7_refuses 7 rfl 0 rfl (w' := (wX7 Δ ad q2.2 saved mlen spot reads hash ms mpast mtext mread)) su_16 fs_16 pu_16 rfl (rest := []) rfl (Nat.le_of_ble_eq_true rfl) ⟨Nat.le_of_ble_eq_true rfl, Nat.le_of_ble_eq_true rfl⟩ ⟨Nat.zero_le _, Nat.zero_le _⟩ (st1 := [.int q2.1]) rfl dX7_setting_15 (fun H locs Z => ?_)
    refine lv_if_eq (tgt := 25) X.x X.b dX7_setting_18 (by decide) (fun b2 => ?_) (fun b2 => ?_)
    · have hf := zif_t b2 hf
      refine lv_aload_n X.x X.b dX7_setting_25 rfl (lv_at hl 0 rfl) ?_
      refine z_gf inG_X7 (ci := 7) rfl 1 (Nat.le_of_ble_eq_true rfl) rfl X Z wd_823 0 rfl (v := .ref (ad 1)) rfl dX7_setting_26 ?_
      refine lv_iconst (v := 1) X.x X.b dX7_setting_29 ki_1 ?_
      refine lv_iload_n X.x X.b dX7_setting_30 rfl (lv_at hl 1 rfl) ?_
      refine lv_iadd X.x X.b dX7_setting_31 ?_
      obtain ⟨b3, hf⟩ := zg_in hf
      refine z_iald X Z 1 rfl b3 dX7_setting_32 ?_
      cases hf
      exact z_iret X Z dX7_setting_33
    · have hf := zif_f b2 hf
      refine lv_iconst (v := 0) X.x X.b dX7_setting_21 ki_0 ?_
      refine lv_goto (tgt := 33) X.x X.b dX7_setting_22 (by decide) ?_
      cases hf
      exact z_iret X Z dX7_setting_33
  · have hf := zif_f b1 hf
    refine lv_iconst (v := 0) X.x X.b dX7_setting_10 ki_0 ?_
    refine lv_goto (tgt := 15) X.x X.b dX7_setting_11 (by decide) ?_
    obtain ⟨q3, hq3, hf⟩ := zb_ok hf
    refine z_callV X Z hl (mX7_refuses l Δ ad thr saved mlen spot reads hash ms mpast mtext mread 0 hq3) wd_862 wd_864 wd_18 wd_68 wd_865 ok_X7_refuses 7 rfl 0 rfl (w' := (wX7 Δ ad q3.2 saved mlen spot reads hash ms mpast mtext mread)) su_16 fs_16 pu_16 rfl (rest := []) rfl (Nat.le_of_ble_eq_true rfl) ⟨Nat.le_of_ble_eq_true rfl, Nat.le_of_ble_eq_true rfl⟩ ⟨Nat.zero_le _, Nat.zero_le _⟩ (st1 := [.int q3.1]) rfl dX7_setting_15 (fun H locs Z => ?_)
    refine lv_if_eq (tgt := 25) X.x X.b dX7_setting_18 (by decide) (fun b4 => ?_) (fun b4 => ?_)
    · have hf := zif_t b4 hf
      refine lv_aload_n X.x X.b dX7_setting_25 rfl (lv_at hl 0 rfl) ?_
      refine z_gf inG_X7 (ci := 7) rfl 1 (Nat.le_of_ble_eq_true rfl) rfl X Z wd_823 0 rfl (v := .ref (ad 1)) rfl dX7_setting_26 ?_
      refine lv_iconst (v := 1) X.x X.b dX7_setting_29 ki_1 ?_
      refine lv_iload_n X.x X.b dX7_setting_30 rfl (lv_at hl 1 rfl) ?_
      refine lv_iadd X.x X.b dX7_setting_31 ?_
      obtain ⟨b5, hf⟩ := zg_in hf
      refine z_iald X Z 1 rfl b5 dX7_setting_32 ?_
      cases hf
      exact z_iret X Z dX7_setting_33
    · have hf := zif_f b4 hf
      refine lv_iconst (v := 0) X.x X.b dX7_setting_21 ki_0 ?_
      refine lv_goto (tgt := 33) X.x X.b dX7_setting_22 (by decide) ?_
      cases hf
      exact z_iret X Z dX7_setting_33
set_option maxRecDepth 100000 in
set_option maxHeartbeats 4000000 in
theorem mX7_recapOf (l : Launch) (Δ : zE) (ad : Nat → Nat) (thr : Int32) (saved : Int32) (mlen : Int32) (spot : Int32) (reads : Int32) (hash : Int64) (ms : Nat → Int32) (mpast : Nat → Int32) (mtext : Nat → Int32) (mread : Nat → Int32) (x1 : Int32) (x2 : Int32) (x3 : Int32) {res : Int32} (hf : fX7_recapOf ms x1 x2 x3 = some res) : zMet l Δ yX7_recapOf cX7_recapOf 6 (some .int) 4 92 [.ref (ad 0), .int x1, .int x2, .int x3] (wX7 Δ ad thr saved mlen spot reads hash ms mpast mtext mread) (wX7 Δ ad thr saved mlen spot reads hash ms mpast mtext mread) (some (.int res)) := by
  refine z_start (by decide +kernel) (Nat.le_of_ble_eq_true rfl) ?_
  intro p e s m args below meth c A ls X Z hl
  have hl : lv_has ls 6 [(0, .ref (ad 0)), (1, .int x1), (2, .int x2), (3, .int x3)] := hl
  rw [fX7_recapOf.eq_1] at hf
  refine lv_aload_n X.x X.b dX7_recapOf_0 rfl (lv_at hl 0 rfl) ?_
  refine lv_iload_n X.x X.b dX7_recapOf_1 rfl (lv_at hl 1 rfl) ?_
  refine lv_iload_n X.x X.b dX7_recapOf_2 rfl (lv_at hl 2 rfl) ?_
  obtain ⟨q1, hq1, hf⟩ := zb_ok hf
  refine z_callV X Z hl (mX7_missed l Δ ad thr saved mlen spot reads hash ms mpast mtext mread x1 x2 hq1) wd_930 wd_932 wd_27 wd_68 wd_933 ok_X7_missed 7 rfl 0 rfl (w' := (wX7 Δ ad thr saved mlen spot reads hash ms mpast mtext mread)) su_16 fs_16 pu_16 rfl (rest := []) rfl (Nat.le_of_ble_eq_true rfl) ⟨Nat.le_of_ble_eq_true rfl, Nat.le_of_ble_eq_true rfl⟩ ⟨Nat.zero_le _, Nat.zero_le _⟩ (st1 := [.int q1]) rfl dX7_recapOf_3 (fun H locs Z => ?_)
  refine lv_istore (lv' := [(4, .int q1), (0, .ref (ad 0)), (1, .int x1), (2, .int x2), (3, .int x3)]) X.x X.b dX7_recapOf_6 hl (Nat.le_of_ble_eq_true rfl) rfl (fun ls hl => ?_)
  refine lv_aload_n X.x X.b dX7_recapOf_8 rfl (lv_at hl 1 rfl) ?_
  refine lv_iload X.x X.b dX7_recapOf_9 (lv_at hl 0 rfl) ?_
  obtain ⟨q2, hq2, hf⟩ := zb_ok hf
  refine z_callV X Z hl (mX7_told l Δ ad thr saved mlen spot reads hash ms mpast mtext mread q1 hq2) wd_946 wd_948 wd_31 wd_68 wd_949 ok_X7_told 7 rfl 0 rfl (w' := (wX7 Δ ad thr saved mlen spot reads hash ms mpast mtext mread)) su_16 fs_16 pu_16 rfl (rest := []) rfl (Nat.le_of_ble_eq_true rfl) ⟨Nat.le_of_ble_eq_true rfl, Nat.le_of_ble_eq_true rfl⟩ ⟨Nat.zero_le _, Nat.zero_le _⟩ (st1 := [.int q2]) rfl dX7_recapOf_11 (fun H locs Z => ?_)
  refine lv_istore (lv' := [(5, .int q2), (4, .int q1), (0, .ref (ad 0)), (1, .int x1), (2, .int x2), (3, .int x3)]) X.x X.b dX7_recapOf_14 hl (Nat.le_of_ble_eq_true rfl) rfl (fun ls hl => ?_)
  refine lv_iload_n X.x X.b dX7_recapOf_16 rfl (lv_at hl 5 rfl) ?_
  by_cases b1 : x3 = 0
  · have hf := zif_t b1 hf
    refine lv_tableIn (tgt := 48) X.x X.b dX7_recapOf_17 (zt_lo b1 (by decide)) (zt_hi b1 (by decide)) (zt_at (off := 31) b1 rfl) (by decide) ?_
    refine lv_iload X.x X.b dX7_recapOf_48 (lv_at hl 0 rfl) ?_
    obtain ⟨q3, hq3, hf⟩ := zb_ok hf
    refine z_callS X Z hl (mX7_ones l Δ  q2 hq3) wd_912 wd_913 wd_68 wd_914 ok_X7_ones (w' := (wX7 Δ ad thr saved mlen spot reads hash ms mpast mtext mread)) zSub_nil rfl zput_nil rfl (rest := []) rfl (Nat.le_of_ble_eq_true rfl) ⟨Nat.le_of_ble_eq_true rfl, Nat.le_of_ble_eq_true rfl⟩ ⟨Nat.zero_le _, Nat.zero_le _⟩ (st1 := [.int q3]) rfl dX7_recapOf_50 (fun H locs Z => ?_)
    cases hf
    exact z_iret X Z dX7_recapOf_53
  · have hf := zif_f b1 hf
    by_cases b2 : x3 = 1
    · have hf := zif_t b2 hf
      refine lv_tableIn (tgt := 54) X.x X.b dX7_recapOf_17 (zt_lo b2 (by decide)) (zt_hi b2 (by decide)) (zt_at (off := 37) b2 rfl) (by decide) ?_
      refine lv_aload_n X.x X.b dX7_recapOf_54 rfl (lv_at hl 2 rfl) ?_
      refine lv_iload X.x X.b dX7_recapOf_55 (lv_at hl 0 rfl) ?_
      obtain ⟨q4, hq4, hf⟩ := zb_ok hf
      refine z_callV X Z hl (mX7_wordsOf l Δ ad thr saved mlen spot reads hash ms mpast mtext mread q2 hq4) wd_950 wd_952 wd_32 wd_68 wd_953 ok_X7_wordsOf 7 rfl 0 rfl (w' := (wX7 Δ ad thr saved mlen spot reads hash ms mpast mtext mread)) su_16 fs_16 pu_16 rfl (rest := []) rfl (Nat.le_of_ble_eq_true rfl) ⟨Nat.le_of_ble_eq_true rfl, Nat.le_of_ble_eq_true rfl⟩ ⟨Nat.zero_le _, Nat.zero_le _⟩ (st1 := [.int q4]) rfl dX7_recapOf_57 (fun H locs Z => ?_)
      cases hf
      exact z_iret X Z dX7_recapOf_60
    · have hf := zif_f b2 hf
      by_cases b3 : x3 = 2
      · have hf := zif_t b3 hf
        refine lv_tableIn (tgt := 61) X.x X.b dX7_recapOf_17 (zt_lo b3 (by decide)) (zt_hi b3 (by decide)) (zt_at (off := 44) b3 rfl) (by decide) ?_
        refine lv_iload X.x X.b dX7_recapOf_61 (lv_at hl 0 rfl) ?_
        cases hf
        exact z_iret X Z dX7_recapOf_63
      · have hf := zif_f b3 hf
        by_cases b4 : x3 = 3
        · have hf := zif_t b4 hf
          refine lv_tableIn (tgt := 64) X.x X.b dX7_recapOf_17 (zt_lo b4 (by decide)) (zt_hi b4 (by decide)) (zt_at (off := 47) b4 rfl) (by decide) ?_
          refine lv_iload X.x X.b dX7_recapOf_64 (lv_at hl 1 rfl) ?_
          obtain ⟨q5, hq5, hf⟩ := zb_ok hf
          refine z_callS X Z hl (mX7_ones l Δ  q1 hq5) wd_912 wd_913 wd_68 wd_914 ok_X7_ones (w' := (wX7 Δ ad thr saved mlen spot reads hash ms mpast mtext mread)) zSub_nil rfl zput_nil rfl (rest := []) rfl (Nat.le_of_ble_eq_true rfl) ⟨Nat.le_of_ble_eq_true rfl, Nat.le_of_ble_eq_true rfl⟩ ⟨Nat.zero_le _, Nat.zero_le _⟩ (st1 := [.int q5]) rfl dX7_recapOf_66 (fun H locs Z => ?_)
          refine lv_iload X.x X.b dX7_recapOf_69 (lv_at hl 0 rfl) ?_
          obtain ⟨q6, hq6, hf⟩ := zb_ok hf
          refine z_callS X Z hl (mX7_ones l Δ  q2 hq6) wd_912 wd_913 wd_68 wd_914 ok_X7_ones (w' := (wX7 Δ ad thr saved mlen spot reads hash ms mpast mtext mread)) zSub_nil rfl zput_nil rfl (rest := [.int q5]) rfl (Nat.le_of_ble_eq_true rfl) ⟨Nat.le_of_ble_eq_true rfl, Nat.le_of_ble_eq_true rfl⟩ ⟨Nat.zero_le _, Nat.zero_le _⟩ (st1 := [.int q6, .int q5]) rfl dX7_recapOf_71 (fun H locs Z => ?_)
          refine lv_isub X.x X.b dX7_recapOf_74 ?_
          cases hf
          exact z_iret X Z dX7_recapOf_75
        · have hf := zif_f b4 hf
          refine lv_tableOut (tgt := 76) X.x X.b dX7_recapOf_17 (by have := (x3 : Int32).toInt; have := zt_ne (n := 0) b1 (by decide); have := zt_ne (n := 1) b2 (by decide); have := zt_ne (n := 2) b3 (by decide); have := zt_ne (n := 3) b4 (by decide); omega) (by decide) ?_
          refine lv_aload_n X.x X.b dX7_recapOf_76 rfl (lv_at hl 2 rfl) ?_
          refine lv_iload_n X.x X.b dX7_recapOf_77 rfl (lv_at hl 4 rfl) ?_
          refine lv_iconst (v := 2) X.x X.b dX7_recapOf_78 ki_2 ?_
          obtain ⟨q7, hq7, hf⟩ := zb_ok hf
          refine z_callV X Z hl (mX7_of l Δ ad thr saved mlen spot reads hash ms mpast mtext mread x2 2 hq7) wd_896 wd_898 wd_23 wd_68 wd_899 ok_X7_of 7 rfl 0 rfl (w' := (wX7 Δ ad thr saved mlen spot reads hash ms mpast mtext mread)) su_16 fs_16 pu_16 rfl (rest := []) rfl (Nat.le_of_ble_eq_true rfl) ⟨Nat.le_of_ble_eq_true rfl, Nat.le_of_ble_eq_true rfl⟩ ⟨Nat.zero_le _, Nat.zero_le _⟩ (st1 := [.int q7]) rfl dX7_recapOf_79 (fun H locs Z => ?_)
          refine lv_aload_n X.x X.b dX7_recapOf_82 rfl (lv_at hl 2 rfl) ?_
          refine lv_iload X.x X.b dX7_recapOf_83 (lv_at hl 0 rfl) ?_
          obtain ⟨q8, hq8, hf⟩ := zb_ok hf
          refine z_callV X Z hl (mX7_wordsOf l Δ ad thr saved mlen spot reads hash ms mpast mtext mread q2 hq8) wd_950 wd_952 wd_32 wd_68 wd_953 ok_X7_wordsOf 7 rfl 0 rfl (w' := (wX7 Δ ad thr saved mlen spot reads hash ms mpast mtext mread)) su_16 fs_16 pu_16 rfl (rest := [.int q7]) rfl (Nat.le_of_ble_eq_true rfl) ⟨Nat.le_of_ble_eq_true rfl, Nat.le_of_ble_eq_true rfl⟩ ⟨Nat.zero_le _, Nat.zero_le _⟩ (st1 := [.int q8, .int q7]) rfl dX7_recapOf_85 (fun H locs Z => ?_)
          refine lv_iadd X.x X.b dX7_recapOf_88 ?_
          cases hf
          exact z_iret X Z dX7_recapOf_89
set_option maxRecDepth 100000 in
set_option maxHeartbeats 4000000 in
theorem mX7_recap (l : Launch) (Δ : zE) (ad : Nat → Nat) (thr : Int32) (saved : Int32) (mlen : Int32) (spot : Int32) (reads : Int32) (hash : Int64) (ms : Nat → Int32) (mpast : Nat → Int32) (mtext : Nat → Int32) (mread : Nat → Int32) (x1 : Int32) (x2 : Int32) (x3 : Int32) {res : Int32 × Int32} (hf : fX7_recap thr ms x1 x2 x3 = some res) : zMet l Δ yX7_recap cX7_recap 4 (some .int) 5 117 [.ref (ad 0), .int x1, .int x2, .int x3] (wX7 Δ ad thr saved mlen spot reads hash ms mpast mtext mread) (wX7 Δ ad res.2 saved mlen spot reads hash ms mpast mtext mread) (some (.int res.1)) := by
  refine z_start (by decide +kernel) (Nat.le_of_ble_eq_true rfl) ?_
  intro p e s m args below meth c A ls X Z hl
  have hl : lv_has ls 4 [(0, .ref (ad 0)), (1, .int x1), (2, .int x2), (3, .int x3)] := hl
  rw [fX7_recap.eq_1] at hf
  refine lv_aload_n X.x X.b dX7_recap_0 rfl (lv_at hl 0 rfl) ?_
  refine lv_iload_n X.x X.b dX7_recap_1 rfl (lv_at hl 1 rfl) ?_
  obtain ⟨q1, hq1, hf⟩ := zb_ok hf
  refine z_callS X Z hl (mX7_isReader l Δ  x1 hq1) wd_923 wd_924 wd_68 wd_925 ok_X7_isReader (w' := (wX7 Δ ad thr saved mlen spot reads hash ms mpast mtext mread)) zSub_nil rfl zput_nil rfl (rest := [.ref (ad 0)]) rfl (Nat.le_of_ble_eq_true rfl) ⟨Nat.le_of_ble_eq_true rfl, Nat.le_of_ble_eq_true rfl⟩ ⟨Nat.zero_le _, Nat.zero_le _⟩ (st1 := [.int q1, .ref (ad 0)]) rfl dX7_recap_2 (fun H locs Z => ?_)
  refine lv_if_eq (tgt := 16) X.x X.b dX7_recap_5 (by decide) (fun b1 => ?_) (fun b1 => ?_)
  · have hf := zif_t b1 hf
    refine lv_iconst (v := 1) X.x X.b dX7_recap_16 ki_1 ?_
    refine lv_goto (tgt := 34) X.x X.b dX7_recap_17 (by decide) ?_
    obtain ⟨q2, hq2, hf⟩ := zb_ok hf
    refine z_callV X Z hl (mX7_refuses l Δ ad thr saved mlen spot reads hash ms mpast mtext mread 1 hq2) wd_862 wd_864 wd_18 wd_68 wd_865 ok_X7_refuses 7 rfl 0 rfl (w' := (wX7 Δ ad q2.2 saved mlen spot reads hash ms mpast mtext mread)) su_16 fs_16 pu_16 rfl (rest := []) rfl (Nat.le_of_ble_eq_true rfl) ⟨Nat.le_of_ble_eq_true rfl, Nat.le_of_ble_eq_true rfl⟩ ⟨Nat.zero_le _, Nat.zero_le _⟩ (st1 := [.int q2.1]) rfl dX7_recap_34 (fun H locs Z => ?_)
    refine lv_if_eq (tgt := 44) X.x X.b dX7_recap_37 (by decide) (fun b2 => ?_) (fun b2 => ?_)
    · have hf := zif_t b2 hf
      refine lv_aload_n X.x X.b dX7_recap_44 rfl (lv_at hl 0 rfl) ?_
      refine lv_iload_n X.x X.b dX7_recap_45 rfl (lv_at hl 1 rfl) ?_
      refine lv_iload_n X.x X.b dX7_recap_46 rfl (lv_at hl 2 rfl) ?_
      refine lv_iload_n X.x X.b dX7_recap_47 rfl (lv_at hl 3 rfl) ?_
      obtain ⟨q3, hq3, hf⟩ := zb_ok hf
      refine z_callV X Z hl (mX7_recapOf l Δ ad q2.2 saved mlen spot reads hash ms mpast mtext mread x1 x2 x3 hq3) wd_1094 wd_1096 wd_54 wd_68 wd_1097 ok_X7_recapOf 7 rfl 0 rfl (w' := (wX7 Δ ad q2.2 saved mlen spot reads hash ms mpast mtext mread)) su_16 fs_16 pu_16 rfl (rest := []) rfl (Nat.le_of_ble_eq_true rfl) ⟨Nat.le_of_ble_eq_true rfl, Nat.le_of_ble_eq_true rfl⟩ ⟨Nat.zero_le _, Nat.zero_le _⟩ (st1 := [.int q3]) rfl dX7_recap_48 (fun H locs Z => ?_)
      cases hf
      exact z_iret X Z dX7_recap_51
    · have hf := zif_f b2 hf
      refine lv_iconst (v := 0) X.x X.b dX7_recap_40 ki_0 ?_
      refine lv_goto (tgt := 51) X.x X.b dX7_recap_41 (by decide) ?_
      cases hf
      exact z_iret X Z dX7_recap_51
  · have hf := zif_f b1 hf
    refine lv_aload_n X.x X.b dX7_recap_8 rfl (lv_at hl 0 rfl) ?_
    refine lv_iload_n X.x X.b dX7_recap_9 rfl (lv_at hl 2 rfl) ?_
    obtain ⟨q4, hq4, hf⟩ := zb_ok hf
    refine z_callV X Z hl (mX7_isPart l Δ ad thr saved mlen spot reads hash ms mpast mtext mread x2 hq4) wd_892 wd_894 wd_22 wd_68 wd_895 ok_X7_isPart 7 rfl 0 rfl (w' := (wX7 Δ ad thr saved mlen spot reads hash ms mpast mtext mread)) su_16 fs_16 pu_16 rfl (rest := [.ref (ad 0)]) rfl (Nat.le_of_ble_eq_true rfl) ⟨Nat.le_of_ble_eq_true rfl, Nat.le_of_ble_eq_true rfl⟩ ⟨Nat.zero_le _, Nat.zero_le _⟩ (st1 := [.int q4, .ref (ad 0)]) rfl dX7_recap_10 (fun H locs Z => ?_)
    refine lv_if_ne (tgt := 20) X.x X.b dX7_recap_13 (by decide) (fun b3 => ?_) (fun b3 => ?_)
    · have hf := zif_f b3 hf
      refine lv_iload_n X.x X.b dX7_recap_20 rfl (lv_at hl 3 rfl) ?_
      refine lv_iconst (v := 0) X.x X.b dX7_recap_21 ki_0 ?_
      refine lv_iconst (v := 4) X.x X.b dX7_recap_22 ki_4 ?_
      obtain ⟨q5, hq5, hf⟩ := zb_ok hf
      refine z_callS X Z hl (mX7_in l Δ  x3 0 4 hq5) wd_870 wd_871 wd_68 wd_872 ok_X7_in (w' := (wX7 Δ ad thr saved mlen spot reads hash ms mpast mtext mread)) zSub_nil rfl zput_nil rfl (rest := [.ref (ad 0)]) rfl (Nat.le_of_ble_eq_true rfl) ⟨Nat.le_of_ble_eq_true rfl, Nat.le_of_ble_eq_true rfl⟩ ⟨Nat.zero_le _, Nat.zero_le _⟩ (st1 := [.int q5, .ref (ad 0)]) rfl dX7_recap_23 (fun H locs Z => ?_)
      refine lv_if_eq (tgt := 33) X.x X.b dX7_recap_26 (by decide) (fun b4 => ?_) (fun b4 => ?_)
      · have hf := zif_t b4 hf
        refine lv_iconst (v := 2) X.x X.b dX7_recap_33 ki_2 ?_
        obtain ⟨q6, hq6, hf⟩ := zb_ok hf
        refine z_callV X Z hl (mX7_refuses l Δ ad thr saved mlen spot reads hash ms mpast mtext mread 2 hq6) wd_862 wd_864 wd_18 wd_68 wd_865 ok_X7_refuses 7 rfl 0 rfl (w' := (wX7 Δ ad q6.2 saved mlen spot reads hash ms mpast mtext mread)) su_16 fs_16 pu_16 rfl (rest := []) rfl (Nat.le_of_ble_eq_true rfl) ⟨Nat.le_of_ble_eq_true rfl, Nat.le_of_ble_eq_true rfl⟩ ⟨Nat.zero_le _, Nat.zero_le _⟩ (st1 := [.int q6.1]) rfl dX7_recap_34 (fun H locs Z => ?_)
        refine lv_if_eq (tgt := 44) X.x X.b dX7_recap_37 (by decide) (fun b5 => ?_) (fun b5 => ?_)
        · have hf := zif_t b5 hf
          refine lv_aload_n X.x X.b dX7_recap_44 rfl (lv_at hl 0 rfl) ?_
          refine lv_iload_n X.x X.b dX7_recap_45 rfl (lv_at hl 1 rfl) ?_
          refine lv_iload_n X.x X.b dX7_recap_46 rfl (lv_at hl 2 rfl) ?_
          refine lv_iload_n X.x X.b dX7_recap_47 rfl (lv_at hl 3 rfl) ?_
          obtain ⟨q7, hq7, hf⟩ := zb_ok hf
          refine z_callV X Z hl (mX7_recapOf l Δ ad q6.2 saved mlen spot reads hash ms mpast mtext mread x1 x2 x3 hq7) wd_1094 wd_1096 wd_54 wd_68 wd_1097 ok_X7_recapOf 7 rfl 0 rfl (w' := (wX7 Δ ad q6.2 saved mlen spot reads hash ms mpast mtext mread)) su_16 fs_16 pu_16 rfl (rest := []) rfl (Nat.le_of_ble_eq_true rfl) ⟨Nat.le_of_ble_eq_true rfl, Nat.le_of_ble_eq_true rfl⟩ ⟨Nat.zero_le _, Nat.zero_le _⟩ (st1 := [.int q7]) rfl dX7_recap_48 (fun H locs Z => ?_)
          cases hf
          exact z_iret X Z dX7_recap_51
        · have hf := zif_f b5 hf
          refine lv_iconst (v := 0) X.x X.b dX7_recap_40 ki_0 ?_
          refine lv_goto (tgt := 51) X.x X.b dX7_recap_41 (by decide) ?_
          cases hf
          exact z_iret X Z dX7_recap_51
      · have hf := zif_f b4 hf
        refine lv_iconst (v := 0) X.x X.b dX7_recap_29 ki_0 ?_
        refine lv_goto (tgt := 34) X.x X.b dX7_recap_30 (by decide) ?_
        obtain ⟨q8, hq8, hf⟩ := zb_ok hf
        refine z_callV X Z hl (mX7_refuses l Δ ad thr saved mlen spot reads hash ms mpast mtext mread 0 hq8) wd_862 wd_864 wd_18 wd_68 wd_865 ok_X7_refuses 7 rfl 0 rfl (w' := (wX7 Δ ad q8.2 saved mlen spot reads hash ms mpast mtext mread)) su_16 fs_16 pu_16 rfl (rest := []) rfl (Nat.le_of_ble_eq_true rfl) ⟨Nat.le_of_ble_eq_true rfl, Nat.le_of_ble_eq_true rfl⟩ ⟨Nat.zero_le _, Nat.zero_le _⟩ (st1 := [.int q8.1]) rfl dX7_recap_34 (fun H locs Z => ?_)
        refine lv_if_eq (tgt := 44) X.x X.b dX7_recap_37 (by decide) (fun b6 => ?_) (fun b6 => ?_)
        · have hf := zif_t b6 hf
          refine lv_aload_n X.x X.b dX7_recap_44 rfl (lv_at hl 0 rfl) ?_
          refine lv_iload_n X.x X.b dX7_recap_45 rfl (lv_at hl 1 rfl) ?_
          refine lv_iload_n X.x X.b dX7_recap_46 rfl (lv_at hl 2 rfl) ?_
          refine lv_iload_n X.x X.b dX7_recap_47 rfl (lv_at hl 3 rfl) ?_
          obtain ⟨q9, hq9, hf⟩ := zb_ok hf
          refine z_callV X Z hl (mX7_recapOf l Δ ad q8.2 saved mlen spot reads hash ms mpast mtext mread x1 x2 x3 hq9) wd_1094 wd_1096 wd_54 wd_68 wd_1097 ok_X7_recapOf 7 rfl 0 rfl (w' := (wX7 Δ ad q8.2 saved mlen spot reads hash ms mpast mtext mread)) su_16 fs_16 pu_16 rfl (rest := []) rfl (Nat.le_of_ble_eq_true rfl) ⟨Nat.le_of_ble_eq_true rfl, Nat.le_of_ble_eq_true rfl⟩ ⟨Nat.zero_le _, Nat.zero_le _⟩ (st1 := [.int q9]) rfl dX7_recap_48 (fun H locs Z => ?_)
          cases hf
          exact z_iret X Z dX7_recap_51
        · have hf := zif_f b6 hf
          refine lv_iconst (v := 0) X.x X.b dX7_recap_40 ki_0 ?_
          refine lv_goto (tgt := 51) X.x X.b dX7_recap_41 (by decide) ?_
          cases hf
          exact z_iret X Z dX7_recap_51
    · have hf := zif_t b3 hf
      refine lv_iconst (v := 1) X.x X.b dX7_recap_16 ki_1 ?_
      refine lv_goto (tgt := 34) X.x X.b dX7_recap_17 (by decide) ?_
      obtain ⟨q10, hq10, hf⟩ := zb_ok hf
      refine z_callV X Z hl (mX7_refuses l Δ ad thr saved mlen spot reads hash ms mpast mtext mread 1 hq10) wd_862 wd_864 wd_18 wd_68 wd_865 ok_X7_refuses 7 rfl 0 rfl (w' := (wX7 Δ ad q10.2 saved mlen spot reads hash ms mpast mtext mread)) su_16 fs_16 pu_16 rfl (rest := []) rfl (Nat.le_of_ble_eq_true rfl) ⟨Nat.le_of_ble_eq_true rfl, Nat.le_of_ble_eq_true rfl⟩ ⟨Nat.zero_le _, Nat.zero_le _⟩ (st1 := [.int q10.1]) rfl dX7_recap_34 (fun H locs Z => ?_)
      refine lv_if_eq (tgt := 44) X.x X.b dX7_recap_37 (by decide) (fun b7 => ?_) (fun b7 => ?_)
      · have hf := zif_t b7 hf
        refine lv_aload_n X.x X.b dX7_recap_44 rfl (lv_at hl 0 rfl) ?_
        refine lv_iload_n X.x X.b dX7_recap_45 rfl (lv_at hl 1 rfl) ?_
        refine lv_iload_n X.x X.b dX7_recap_46 rfl (lv_at hl 2 rfl) ?_
        refine lv_iload_n X.x X.b dX7_recap_47 rfl (lv_at hl 3 rfl) ?_
        obtain ⟨q11, hq11, hf⟩ := zb_ok hf
        refine z_callV X Z hl (mX7_recapOf l Δ ad q10.2 saved mlen spot reads hash ms mpast mtext mread x1 x2 x3 hq11) wd_1094 wd_1096 wd_54 wd_68 wd_1097 ok_X7_recapOf 7 rfl 0 rfl (w' := (wX7 Δ ad q10.2 saved mlen spot reads hash ms mpast mtext mread)) su_16 fs_16 pu_16 rfl (rest := []) rfl (Nat.le_of_ble_eq_true rfl) ⟨Nat.le_of_ble_eq_true rfl, Nat.le_of_ble_eq_true rfl⟩ ⟨Nat.zero_le _, Nat.zero_le _⟩ (st1 := [.int q11]) rfl dX7_recap_48 (fun H locs Z => ?_)
        cases hf
        exact z_iret X Z dX7_recap_51
      · have hf := zif_f b7 hf
        refine lv_iconst (v := 0) X.x X.b dX7_recap_40 ki_0 ?_
        refine lv_goto (tgt := 51) X.x X.b dX7_recap_41 (by decide) ?_
        cases hf
        exact z_iret X Z dX7_recap_51
