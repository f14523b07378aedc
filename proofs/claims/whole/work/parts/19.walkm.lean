set_option maxRecDepth 100000 in
set_option maxHeartbeats 4000000 in
theorem mX7_easiestOf (l : Launch) (Δ : zE) (ad : Nat → Nat) (thr : Int32) (saved : Int32) (mlen : Int32) (spot : Int32) (reads : Int32) (hash : Int64) (ms : Nat → Int32) (mpast : Nat → Int32) (mtext : Nat → Int32) (mread : Nat → Int32) (x1 : Int32) {res : Int32} (hf : fX7_easiestOf ms x1 = some res) : zMet l Δ yX7_easiestOf cX7_easiestOf 9 (some .int) 5 117 [.ref (ad 0), .int x1] (wX7 Δ ad thr saved mlen spot reads hash ms mpast mtext mread) (wX7 Δ ad thr saved mlen spot reads hash ms mpast mtext mread) (some (.int res)) := by
  refine z_start (by decide +kernel) (Nat.le_of_ble_eq_true rfl) ?_
  intro p e s m args below meth c A ls X Z hl
  have hl : lv_has ls 9 [(0, .ref (ad 0)), (1, .int x1)] := hl
  have L10 : ∀ (k : Nat) (ms : Nat → Int32) (v1 : Int32) (v2 : Int32) (v3 : Int32) (v4 : Int32) (v5 : Int32), fX7_easiestOf_10 k ms v1 v2 v3 v4 v5 = some res → ∀ (H : Heap) (locs : List Loc) (ls : Array Slot), zW Δ A s.heap (wX7 Δ ad thr saved mlen spot reads hash ms mpast mtext mread) H locs → lv_has ls 9 [(0, .ref (ad 0)), (1, .int v1), (2, .int v2), (3, .int v3), (4, .int v4), (5, .int v5)] → W p l e { frames := 5, cells := 0, slots := 0, locals := 117 } s m args below meth c H locs 0 0 (zEnd Δ below args s 0 0 A (some (.int res)) (wX7 Δ ad thr saved mlen spot reads hash ms mpast mtext mread)) (F0 m 10 ls []) := by
    intro k
    induction k with
    | zero =>
      intro ms v1 v2 v3 v4 v5 hf
      rw [fX7_easiestOf_10.eq_1] at hf
      cases hf
    | succ k ih =>
      intro ms v1 v2 v3 v4 v5 hf H locs ls Z hl
      rw [fX7_easiestOf_10.eq_2] at hf
      refine lv_iload X.x X.b dX7_easiestOf_10 (lv_at hl 5 rfl) ?_
      refine lv_aload_n X.x X.b dX7_easiestOf_12 rfl (lv_at hl 0 rfl) ?_
      refine z_gf inG_X7 (ci := 7) rfl 1 (Nat.le_of_ble_eq_true rfl) rfl X Z wd_823 0 rfl (v := .ref (ad 1)) rfl dX7_easiestOf_13 ?_
      refine lv_iconst (v := 0) X.x X.b dX7_easiestOf_16 ki_0 ?_
      refine z_iald X Z 1 rfl (zvin (by decide)) dX7_easiestOf_17 ?_
      refine lv_icmp_ge (tgt := 127) X.x X.b dX7_easiestOf_18 (by decide) (fun b1 => ?_) (fun b1 => ?_)
      · have hf := zif_t b1 hf
        refine lv_iload_n X.x X.b dX7_easiestOf_127 rfl (lv_at hl 2 rfl) ?_
        cases hf
        exact z_iret X Z dX7_easiestOf_128
      · have hf := zif_f b1 hf
        refine lv_aload_n X.x X.b dX7_easiestOf_21 rfl (lv_at hl 0 rfl) ?_
        refine lv_iload_n X.x X.b dX7_easiestOf_22 rfl (lv_at hl 1 rfl) ?_
        refine lv_iload X.x X.b dX7_easiestOf_23 (lv_at hl 5 rfl) ?_
        refine lv_iconst (v := 3) X.x X.b dX7_easiestOf_25 ki_3 ?_
        obtain ⟨q1, hq1, hf⟩ := zb_ok hf
        refine z_callV X Z hl (mX7_recapOf l Δ ad thr saved mlen spot reads hash ms mpast mtext mread v1 v5 3 hq1) wd_1094 wd_1096 wd_54 wd_68 wd_1097 ok_X7_recapOf 7 rfl 0 rfl (w' := (wX7 Δ ad thr saved mlen spot reads hash ms mpast mtext mread)) su_16 fs_16 pu_16 rfl (rest := []) rfl (Nat.le_of_ble_eq_true rfl) ⟨Nat.le_of_ble_eq_true rfl, Nat.le_of_ble_eq_true rfl⟩ ⟨Nat.zero_le _, Nat.zero_le _⟩ (st1 := [.int q1]) rfl dX7_easiestOf_26 (fun H locs Z => ?_)
        refine lv_istore (lv' := [(6, .int q1), (0, .ref (ad 0)), (1, .int v1), (2, .int v2), (3, .int v3), (4, .int v4), (5, .int v5)]) X.x X.b dX7_easiestOf_29 hl (Nat.le_of_ble_eq_true rfl) rfl (fun ls hl => ?_)
        refine lv_aload_n X.x X.b dX7_easiestOf_31 rfl (lv_at hl 1 rfl) ?_
        refine lv_iload_n X.x X.b dX7_easiestOf_32 rfl (lv_at hl 2 rfl) ?_
        refine lv_iload X.x X.b dX7_easiestOf_33 (lv_at hl 6 rfl) ?_
        refine lv_iconst (v := 4) X.x X.b dX7_easiestOf_35 ki_4 ?_
        obtain ⟨q2, hq2, hf⟩ := zb_ok hf
        refine z_callV X Z hl (mX7_recapOf l Δ ad thr saved mlen spot reads hash ms mpast mtext mread v1 v5 4 hq2) wd_1094 wd_1096 wd_54 wd_68 wd_1097 ok_X7_recapOf 7 rfl 0 rfl (w' := (wX7 Δ ad thr saved mlen spot reads hash ms mpast mtext mread)) su_16 fs_16 pu_16 rfl (rest := []) rfl (Nat.le_of_ble_eq_true rfl) ⟨Nat.le_of_ble_eq_true rfl, Nat.le_of_ble_eq_true rfl⟩ ⟨Nat.zero_le _, Nat.zero_le _⟩ (st1 := [.int q2]) rfl dX7_easiestOf_36 (fun H locs Z => ?_)
        refine lv_istore (lv' := [(7, .int q2), (6, .int q1), (0, .ref (ad 0)), (1, .int v1), (2, .int v2), (3, .int v3), (4, .int v4), (5, .int v5)]) X.x X.b dX7_easiestOf_39 hl (Nat.le_of_ble_eq_true rfl) rfl (fun ls hl => ?_)
        refine lv_aload_n X.x X.b dX7_easiestOf_41 rfl (lv_at hl 2 rfl) ?_
        refine lv_iload_n X.x X.b dX7_easiestOf_42 rfl (lv_at hl 3 rfl) ?_
        refine lv_iload X.x X.b dX7_easiestOf_43 (lv_at hl 7 rfl) ?_
        obtain ⟨q3, hq3, hf⟩ := zb_ok hf
        refine z_callV X Z hl (mX7_known l Δ ad thr saved mlen spot reads hash ms mpast mtext mread v1 v5 hq3) wd_908 wd_910 wd_25 wd_68 wd_911 ok_X7_known 7 rfl 0 rfl (w' := (wX7 Δ ad thr saved mlen spot reads hash ms mpast mtext mread)) su_16 fs_16 pu_16 rfl (rest := []) rfl (Nat.le_of_ble_eq_true rfl) ⟨Nat.le_of_ble_eq_true rfl, Nat.le_of_ble_eq_true rfl⟩ ⟨Nat.zero_le _, Nat.zero_le _⟩ (st1 := [.int q3]) rfl dX7_easiestOf_45 (fun H locs Z => ?_)
        refine lv_iconst (v := 2) X.x X.b dX7_easiestOf_48 ki_2 ?_
        refine lv_icmp_eq (tgt := 80) X.x X.b dX7_easiestOf_49 (by decide) (fun b2 => ?_) (fun b2 => ?_)
        · have hf := zif_t b2 hf
          refine lv_iconst (v := 0) X.x X.b dX7_easiestOf_80 ki_0 ?_
          refine lv_istore (lv' := [(8, .int 0), (7, .int q2), (6, .int q1), (0, .ref (ad 0)), (1, .int v1), (2, .int v2), (3, .int v3), (4, .int v4), (5, .int v5)]) X.x X.b dX7_easiestOf_81 hl (Nat.le_of_ble_eq_true rfl) rfl (fun ls hl => ?_)
          refine lv_iload X.x X.b dX7_easiestOf_83 (lv_at hl 0 rfl) ?_
          refine lv_if_eq (tgt := 93) X.x X.b dX7_easiestOf_85 (by decide) (fun _ => ?_) (fun h => absurd h (by decide))
          refine lv_iload_n X.x X.b dX7_easiestOf_93 rfl (lv_at hl 5 rfl) ?_
          refine lv_istore_n (lv' := [(2, .int v2), (8, .int 0), (7, .int q2), (6, .int q1), (0, .ref (ad 0)), (1, .int v1), (3, .int v3), (4, .int v4), (5, .int v5)]) X.x X.b dX7_easiestOf_94 rfl hl (Nat.le_of_ble_eq_true rfl) rfl (fun ls hl => ?_)
          refine lv_iload X.x X.b dX7_easiestOf_95 (lv_at hl 1 rfl) ?_
          refine lv_if_eq (tgt := 105) X.x X.b dX7_easiestOf_97 (by decide) (fun _ => ?_) (fun h => absurd h (by decide))
          refine lv_iload_n X.x X.b dX7_easiestOf_105 rfl (lv_at hl 6 rfl) ?_
          refine lv_istore_n (lv' := [(3, .int v3), (2, .int v2), (8, .int 0), (7, .int q2), (6, .int q1), (0, .ref (ad 0)), (1, .int v1), (4, .int v4), (5, .int v5)]) X.x X.b dX7_easiestOf_106 rfl hl (Nat.le_of_ble_eq_true rfl) rfl (fun ls hl => ?_)
          refine lv_iload X.x X.b dX7_easiestOf_107 (lv_at hl 2 rfl) ?_
          refine lv_if_eq (tgt := 117) X.x X.b dX7_easiestOf_109 (by decide) (fun _ => ?_) (fun h => absurd h (by decide))
          refine lv_iload X.x X.b dX7_easiestOf_117 (lv_at hl 7 rfl) ?_
          refine lv_istore (lv' := [(4, .int v4), (3, .int v3), (2, .int v2), (8, .int 0), (7, .int q2), (6, .int q1), (0, .ref (ad 0)), (1, .int v1), (5, .int v5)]) X.x X.b dX7_easiestOf_119 hl (Nat.le_of_ble_eq_true rfl) rfl (fun ls hl => ?_)
          refine lv_iinc (v := (v5 + 1)) (lv' := [(5, .int (v5 + 1)), (4, .int v4), (3, .int v3), (2, .int v2), (8, .int 0), (7, .int q2), (6, .int q1), (0, .ref (ad 0)), (1, .int v1)]) X.x X.b dX7_easiestOf_121 hl (k := 8) rfl (congrArg _ ki_1) (Nat.le_of_ble_eq_true rfl) rfl (fun ls hl => ?_)
          refine lv_goto (tgt := 10) X.x X.b dX7_easiestOf_124 (by decide) ?_
          exact ih ms v1 v2 v3 v4 (v5 + 1) hf _ _ _ Z (lv_sub hl [7, 8, 3, 2, 1, 0] rfl)
        · have hf := zif_f b2 hf
          refine lv_iload_n X.x X.b dX7_easiestOf_52 rfl (lv_at hl 4 rfl) ?_
          refine lv_iconst (v := (-1)) X.x X.b dX7_easiestOf_53 ki_m1 ?_
          refine lv_icmp_eq (tgt := 76) X.x X.b dX7_easiestOf_54 (by decide) (fun b3 => ?_) (fun b3 => ?_)
          · have hf := zif_t b3 hf
            refine lv_iconst (v := 1) X.x X.b dX7_easiestOf_76 ki_1 ?_
            refine lv_goto (tgt := 81) X.x X.b dX7_easiestOf_77 (by decide) ?_
            refine lv_istore (lv' := [(8, .int 1), (7, .int q2), (6, .int q1), (0, .ref (ad 0)), (1, .int v1), (2, .int v2), (3, .int v3), (4, .int v4), (5, .int v5)]) X.x X.b dX7_easiestOf_81 hl (Nat.le_of_ble_eq_true rfl) rfl (fun ls hl => ?_)
            refine lv_iload X.x X.b dX7_easiestOf_83 (lv_at hl 0 rfl) ?_
            refine lv_if_eq (tgt := 93) X.x X.b dX7_easiestOf_85 (by decide) (fun h => absurd h (by decide)) (fun _ => ?_)
            refine lv_iload X.x X.b dX7_easiestOf_88 (lv_at hl 8 rfl) ?_
            refine lv_goto (tgt := 94) X.x X.b dX7_easiestOf_90 (by decide) ?_
            refine lv_istore_n (lv' := [(2, .int v5), (8, .int 1), (7, .int q2), (6, .int q1), (0, .ref (ad 0)), (1, .int v1), (3, .int v3), (4, .int v4), (5, .int v5)]) X.x X.b dX7_easiestOf_94 rfl hl (Nat.le_of_ble_eq_true rfl) rfl (fun ls hl => ?_)
            refine lv_iload X.x X.b dX7_easiestOf_95 (lv_at hl 1 rfl) ?_
            refine lv_if_eq (tgt := 105) X.x X.b dX7_easiestOf_97 (by decide) (fun h => absurd h (by decide)) (fun _ => ?_)
            refine lv_iload X.x X.b dX7_easiestOf_100 (lv_at hl 3 rfl) ?_
            refine lv_goto (tgt := 106) X.x X.b dX7_easiestOf_102 (by decide) ?_
            refine lv_istore_n (lv' := [(3, .int q1), (2, .int v5), (8, .int 1), (7, .int q2), (6, .int q1), (0, .ref (ad 0)), (1, .int v1), (4, .int v4), (5, .int v5)]) X.x X.b dX7_easiestOf_106 rfl hl (Nat.le_of_ble_eq_true rfl) rfl (fun ls hl => ?_)
            refine lv_iload X.x X.b dX7_easiestOf_107 (lv_at hl 2 rfl) ?_
            refine lv_if_eq (tgt := 117) X.x X.b dX7_easiestOf_109 (by decide) (fun h => absurd h (by decide)) (fun _ => ?_)
            refine lv_iload X.x X.b dX7_easiestOf_112 (lv_at hl 3 rfl) ?_
            refine lv_goto (tgt := 119) X.x X.b dX7_easiestOf_114 (by decide) ?_
            refine lv_istore (lv' := [(4, .int q2), (3, .int q1), (2, .int v5), (8, .int 1), (7, .int q2), (6, .int q1), (0, .ref (ad 0)), (1, .int v1), (5, .int v5)]) X.x X.b dX7_easiestOf_119 hl (Nat.le_of_ble_eq_true rfl) rfl (fun ls hl => ?_)
            refine lv_iinc (v := (v5 + 1)) (lv' := [(5, .int (v5 + 1)), (4, .int q2), (3, .int q1), (2, .int v5), (8, .int 1), (7, .int q2), (6, .int q1), (0, .ref (ad 0)), (1, .int v1)]) X.x X.b dX7_easiestOf_121 hl (k := 8) rfl (congrArg _ ki_1) (Nat.le_of_ble_eq_true rfl) rfl (fun ls hl => ?_)
            refine lv_goto (tgt := 10) X.x X.b dX7_easiestOf_124 (by decide) ?_
            exact ih ms v1 v5 q1 q2 (v5 + 1) hf _ _ _ Z (lv_sub hl [7, 8, 3, 2, 1, 0] rfl)
          · have hf := zif_f b3 hf
            refine lv_iload X.x X.b dX7_easiestOf_57 (lv_at hl 1 rfl) ?_
            refine lv_iload_n X.x X.b dX7_easiestOf_59 rfl (lv_at hl 5 rfl) ?_
            refine lv_icmp_lt (tgt := 76) X.x X.b dX7_easiestOf_60 (by decide) (fun b4 => ?_) (fun b4 => ?_)
            · have hf := zif_t b4 hf
              refine lv_iconst (v := 1) X.x X.b dX7_easiestOf_76 ki_1 ?_
              refine lv_goto (tgt := 81) X.x X.b dX7_easiestOf_77 (by decide) ?_
              refine lv_istore (lv' := [(8, .int 1), (7, .int q2), (6, .int q1), (0, .ref (ad 0)), (1, .int v1), (2, .int v2), (3, .int v3), (4, .int v4), (5, .int v5)]) X.x X.b dX7_easiestOf_81 hl (Nat.le_of_ble_eq_true rfl) rfl (fun ls hl => ?_)
              refine lv_iload X.x X.b dX7_easiestOf_83 (lv_at hl 0 rfl) ?_
              refine lv_if_eq (tgt := 93) X.x X.b dX7_easiestOf_85 (by decide) (fun h => absurd h (by decide)) (fun _ => ?_)
              refine lv_iload X.x X.b dX7_easiestOf_88 (lv_at hl 8 rfl) ?_
              refine lv_goto (tgt := 94) X.x X.b dX7_easiestOf_90 (by decide) ?_
              refine lv_istore_n (lv' := [(2, .int v5), (8, .int 1), (7, .int q2), (6, .int q1), (0, .ref (ad 0)), (1, .int v1), (3, .int v3), (4, .int v4), (5, .int v5)]) X.x X.b dX7_easiestOf_94 rfl hl (Nat.le_of_ble_eq_true rfl) rfl (fun ls hl => ?_)
              refine lv_iload X.x X.b dX7_easiestOf_95 (lv_at hl 1 rfl) ?_
              refine lv_if_eq (tgt := 105) X.x X.b dX7_easiestOf_97 (by decide) (fun h => absurd h (by decide)) (fun _ => ?_)
              refine lv_iload X.x X.b dX7_easiestOf_100 (lv_at hl 3 rfl) ?_
              refine lv_goto (tgt := 106) X.x X.b dX7_easiestOf_102 (by decide) ?_
              refine lv_istore_n (lv' := [(3, .int q1), (2, .int v5), (8, .int 1), (7, .int q2), (6, .int q1), (0, .ref (ad 0)), (1, .int v1), (4, .int v4), (5, .int v5)]) X.x X.b dX7_easiestOf_106 rfl hl (Nat.le_of_ble_eq_true rfl) rfl (fun ls hl => ?_)
              refine lv_iload X.x X.b dX7_easiestOf_107 (lv_at hl 2 rfl) ?_
              refine lv_if_eq (tgt := 117) X.x X.b dX7_easiestOf_109 (by decide) (fun h => absurd h (by decide)) (fun _ => ?_)
              refine lv_iload X.x X.b dX7_easiestOf_112 (lv_at hl 3 rfl) ?_
              refine lv_goto (tgt := 119) X.x X.b dX7_easiestOf_114 (by decide) ?_
              refine lv_istore (lv' := [(4, .int q2), (3, .int q1), (2, .int v5), (8, .int 1), (7, .int q2), (6, .int q1), (0, .ref (ad 0)), (1, .int v1), (5, .int v5)]) X.x X.b dX7_easiestOf_119 hl (Nat.le_of_ble_eq_true rfl) rfl (fun ls hl => ?_)
              refine lv_iinc (v := (v5 + 1)) (lv' := [(5, .int (v5 + 1)), (4, .int q2), (3, .int q1), (2, .int v5), (8, .int 1), (7, .int q2), (6, .int q1), (0, .ref (ad 0)), (1, .int v1)]) X.x X.b dX7_easiestOf_121 hl (k := 8) rfl (congrArg _ ki_1) (Nat.le_of_ble_eq_true rfl) rfl (fun ls hl => ?_)
              refine lv_goto (tgt := 10) X.x X.b dX7_easiestOf_124 (by decide) ?_
              exact ih ms v1 v5 q1 q2 (v5 + 1) hf _ _ _ Z (lv_sub hl [7, 8, 3, 2, 1, 0] rfl)
            · have hf := zif_f b4 hf
              refine lv_iload X.x X.b dX7_easiestOf_63 (lv_at hl 1 rfl) ?_
              refine lv_iload_n X.x X.b dX7_easiestOf_65 rfl (lv_at hl 5 rfl) ?_
              refine lv_icmp_ne (tgt := 80) X.x X.b dX7_easiestOf_66 (by decide) (fun b5 => ?_) (fun b5 => ?_)
              · have hf := zif_f b5 hf
                refine lv_iconst (v := 0) X.x X.b dX7_easiestOf_80 ki_0 ?_
                refine lv_istore (lv' := [(8, .int 0), (7, .int q2), (6, .int q1), (0, .ref (ad 0)), (1, .int v1), (2, .int v2), (3, .int v3), (4, .int v4), (5, .int v5)]) X.x X.b dX7_easiestOf_81 hl (Nat.le_of_ble_eq_true rfl) rfl (fun ls hl => ?_)
                refine lv_iload X.x X.b dX7_easiestOf_83 (lv_at hl 0 rfl) ?_
                refine lv_if_eq (tgt := 93) X.x X.b dX7_easiestOf_85 (by decide) (fun _ => ?_) (fun h => absurd h (by decide))
                refine lv_iload_n X.x X.b dX7_easiestOf_93 rfl (lv_at hl 5 rfl) ?_
                refine lv_istore_n (lv' := [(2, .int v2), (8, .int 0), (7, .int q2), (6, .int q1), (0, .ref (ad 0)), (1, .int v1), (3, .int v3), (4, .int v4), (5, .int v5)]) X.x X.b dX7_easiestOf_94 rfl hl (Nat.le_of_ble_eq_true rfl) rfl (fun ls hl => ?_)
                refine lv_iload X.x X.b dX7_easiestOf_95 (lv_at hl 1 rfl) ?_
                refine lv_if_eq (tgt := 105) X.x X.b dX7_easiestOf_97 (by decide) (fun _ => ?_) (fun h => absurd h (by decide))
                refine lv_iload_n X.x X.b dX7_easiestOf_105 rfl (lv_at hl 6 rfl) ?_
                refine lv_istore_n (lv' := [(3, .int v3), (2, .int v2), (8, .int 0), (7, .int q2), (6, .int q1), (0, .ref (ad 0)), (1, .int v1), (4, .int v4), (5, .int v5)]) X.x X.b dX7_easiestOf_106 rfl hl (Nat.le_of_ble_eq_true rfl) rfl (fun ls hl => ?_)
                refine lv_iload X.x X.b dX7_easiestOf_107 (lv_at hl 2 rfl) ?_
                refine lv_if_eq (tgt := 117) X.x X.b dX7_easiestOf_109 (by decide) (fun _ => ?_) (fun h => absurd h (by decide))
                refine lv_iload X.x X.b dX7_easiestOf_117 (lv_at hl 7 rfl) ?_
                refine lv_istore (lv' := [(4, .int v4), (3, .int v3), (2, .int v2), (8, .int 0), (7, .int q2), (6, .int q1), (0, .ref (ad 0)), (1, .int v1), (5, .int v5)]) X.x X.b dX7_easiestOf_119 hl (Nat.le_of_ble_eq_true rfl) rfl (fun ls hl => ?_)
                refine lv_iinc (v := (v5 + 1)) (lv' := [(5, .int (v5 + 1)), (4, .int v4), (3, .int v3), (2, .int v2), (8, .int 0), (7, .int q2), (6, .int q1), (0, .ref (ad 0)), (1, .int v1)]) X.x X.b dX7_easiestOf_121 hl (k := 8) rfl (congrArg _ ki_1) (Nat.le_of_ble_eq_true rfl) rfl (fun ls hl => ?_)
                refine lv_goto (tgt := 10) X.x X.b dX7_easiestOf_124 (by decide) ?_
                exact ih ms v1 v2 v3 v4 (v5 + 1) hf _ _ _ Z (lv_sub hl [7, 8, 3, 2, 1, 0] rfl)
              · have hf := zif_t b5 hf
                refine lv_iload X.x X.b dX7_easiestOf_69 (lv_at hl 0 rfl) ?_
                refine lv_iload X.x X.b dX7_easiestOf_71 (lv_at hl 6 rfl) ?_
                refine lv_icmp_ge (tgt := 80) X.x X.b dX7_easiestOf_73 (by decide) (fun b6 => ?_) (fun b6 => ?_)
                · have hf := zif_t b6 hf
                  refine lv_iconst (v := 0) X.x X.b dX7_easiestOf_80 ki_0 ?_
                  refine lv_istore (lv' := [(8, .int 0), (7, .int q2), (6, .int q1), (0, .ref (ad 0)), (1, .int v1), (2, .int v2), (3, .int v3), (4, .int v4), (5, .int v5)]) X.x X.b dX7_easiestOf_81 hl (Nat.le_of_ble_eq_true rfl) rfl (fun ls hl => ?_)
                  refine lv_iload X.x X.b dX7_easiestOf_83 (lv_at hl 0 rfl) ?_
                  refine lv_if_eq (tgt := 93) X.x X.b dX7_easiestOf_85 (by decide) (fun _ => ?_) (fun h => absurd h (by decide))
                  refine lv_iload_n X.x X.b dX7_easiestOf_93 rfl (lv_at hl 5 rfl) ?_
                  refine lv_istore_n (lv' := [(2, .int v2), (8, .int 0), (7, .int q2), (6, .int q1), (0, .ref (ad 0)), (1, .int v1), (3, .int v3), (4, .int v4), (5, .int v5)]) X.x X.b dX7_easiestOf_94 rfl hl (Nat.le_of_ble_eq_true rfl) rfl (fun ls hl => ?_)
                  refine lv_iload X.x X.b dX7_easiestOf_95 (lv_at hl 1 rfl) ?_
                  refine lv_if_eq (tgt := 105) X.x X.b dX7_easiestOf_97 (by decide) (fun _ => ?_) (fun h => absurd h (by decide))
                  refine lv_iload_n X.x X.b dX7_easiestOf_105 rfl (lv_at hl 6 rfl) ?_
                  refine lv_istore_n (lv' := [(3, .int v3), (2, .int v2), (8, .int 0), (7, .int q2), (6, .int q1), (0, .ref (ad 0)), (1, .int v1), (4, .int v4), (5, .int v5)]) X.x X.b dX7_easiestOf_106 rfl hl (Nat.le_of_ble_eq_true rfl) rfl (fun ls hl => ?_)
                  refine lv_iload X.x X.b dX7_easiestOf_107 (lv_at hl 2 rfl) ?_
                  refine lv_if_eq (tgt := 117) X.x X.b dX7_easiestOf_109 (by decide) (fun _ => ?_) (fun h => absurd h (by decide))
                  refine lv_iload X.x X.b dX7_easiestOf_117 (lv_at hl 7 rfl) ?_
                  refine lv_istore (lv' := [(4, .int v4), (3, .int v3), (2, .int v2), (8, .int 0), (7, .int q2), (6, .int q1), (0, .ref (ad 0)), (1, .int v1), (5, .int v5)]) X.x X.b dX7_easiestOf_119 hl (Nat.le_of_ble_eq_true rfl) rfl (fun ls hl => ?_)
                  refine lv_iinc (v := (v5 + 1)) (lv' := [(5, .int (v5 + 1)), (4, .int v4), (3, .int v3), (2, .int v2), (8, .int 0), (7, .int q2), (6, .int q1), (0, .ref (ad 0)), (1, .int v1)]) X.x X.b dX7_easiestOf_121 hl (k := 8) rfl (congrArg _ ki_1) (Nat.le_of_ble_eq_true rfl) rfl (fun ls hl => ?_)
                  refine lv_goto (tgt := 10) X.x X.b dX7_easiestOf_124 (by decide) ?_
                  exact ih ms v1 v2 v3 v4 (v5 + 1) hf _ _ _ Z (lv_sub hl [7, 8, 3, 2, 1, 0] rfl)
                · have hf := zif_f b6 hf
                  refine lv_iconst (v := 1) X.x X.b dX7_easiestOf_76 ki_1 ?_
                  refine lv_goto (tgt := 81) X.x X.b dX7_easiestOf_77 (by decide) ?_
                  refine lv_istore (lv' := [(8, .int 1), (7, .int q2), (6, .int q1), (0, .ref (ad 0)), (1, .int v1), (2, .int v2), (3, .int v3), (4, .int v4), (5, .int v5)]) X.x X.b dX7_easiestOf_81 hl (Nat.le_of_ble_eq_true rfl) rfl (fun ls hl => ?_)
                  refine lv_iload X.x X.b dX7_easiestOf_83 (lv_at hl 0 rfl) ?_
                  refine lv_if_eq (tgt := 93) X.x X.b dX7_easiestOf_85 (by decide) (fun h => absurd h (by decide)) (fun _ => ?_)
                  refine lv_iload X.x X.b dX7_easiestOf_88 (lv_at hl 8 rfl) ?_
                  refine lv_goto (tgt := 94) X.x X.b dX7_easiestOf_90 (by decide) ?_
                  refine lv_istore_n (lv' := [(2, .int v5), (8, .int 1), (7, .int q2), (6, .int q1), (0, .ref (ad 0)), (1, .int v1), (3, .int v3), (4, .int v4), (5, .int v5)]) X.x X.b dX7_easiestOf_94 rfl hl (Nat.le_of_ble_eq_true rfl) rfl (fun ls hl => ?_)
                  refine lv_iload X.x X.b dX7_easiestOf_95 (lv_at hl 1 rfl) ?_
                  refine lv_if_eq (tgt := 105) X.x X.b dX7_easiestOf_97 (by decide) (fun h => absurd h (by decide)) (fun _ => ?_)
                  refine lv_iload X.x X.b dX7_easiestOf_100 (lv_at hl 3 rfl) ?_
                  refine lv_goto (tgt := 106) X.x X.b dX7_easiestOf_102 (by decide) ?_
                  refine lv_istore_n (lv' := [(3, .int q1), (2, .int v5), (8, .int 1), (7, .int q2), (6, .int q1), (0, .ref (ad 0)), (1, .int v1), (4, .int v4), (5, .int v5)]) X.x X.b dX7_easiestOf_106 rfl hl (Nat.le_of_ble_eq_true rfl) rfl (fun ls hl => ?_)
                  refine lv_iload X.x X.b dX7_easiestOf_107 (lv_at hl 2 rfl) ?_
                  refine lv_if_eq (tgt := 117) X.x X.b dX7_easiestOf_109 (by decide) (fun h => absurd h (by decide)) (fun _ => ?_)
                  refine lv_iload X.x X.b dX7_easiestOf_112 (lv_at hl 3 rfl) ?_
                  refine lv_goto (tgt := 119) X.x X.b dX7_easiestOf_114 (by decide) ?_
                  refine lv_istore (lv' := [(4, .int q2), (3, .int q1), (2, .int v5), (8, .int 1), (7, .int q2), (6, .int q1), (0, .ref (ad 0)), (1, .int v1), (5, .int v5)]) X.x X.b dX7_easiestOf_119 hl (Nat.le_of_ble_eq_true rfl) rfl (fun ls hl => ?_)
                  refine lv_iinc (v := (v5 + 1)) (lv' := [(5, .int (v5 + 1)), (4, .int q2), (3, .int q1), (2, .int v5), (8, .int 1), (7, .int q2), (6, .int q1), (0, .ref (ad 0)), (1, .int v1)]) X.x X.b dX7_easiestOf_121 hl (k := 8) rfl (congrArg _ ki_1) (Nat.le_of_ble_eq_true rfl) rfl (fun ls hl => ?_)
                  refine lv_goto (tgt := 10) X.x X.b dX7_easiestOf_124 (by decide) ?_
                  exact ih ms v1 v5 q1 q2 (v5 + 1) hf _ _ _ Z (lv_sub hl [7, 8, 3, 2, 1, 0] rfl)
  rw [fX7_easiestOf.eq_1] at hf
  refine lv_iconst (v := (-1)) X.x X.b dX7_easiestOf_0 ki_m1 ?_
  refine lv_istore_n (lv' := [(2, .int (-1)), (0, .ref (ad 0)), (1, .int x1)]) X.x X.b dX7_easiestOf_1 rfl hl (Nat.le_of_ble_eq_true rfl) rfl (fun ls hl => ?_)
  refine lv_iconst (v := 0) X.x X.b dX7_easiestOf_2 ki_0 ?_
  refine lv_istore_n (lv' := [(3, .int 0), (2, .int (-1)), (0, .ref (ad 0)), (1, .int x1)]) X.x X.b dX7_easiestOf_3 rfl hl (Nat.le_of_ble_eq_true rfl) rfl (fun ls hl => ?_)
  refine lv_iconst (v := 0) X.x X.b dX7_easiestOf_4 ki_0 ?_
  refine lv_istore (lv' := [(4, .int 0), (3, .int 0), (2, .int (-1)), (0, .ref (ad 0)), (1, .int x1)]) X.x X.b dX7_easiestOf_5 hl (Nat.le_of_ble_eq_true rfl) rfl (fun ls hl => ?_)
  refine lv_iconst (v := 0) X.x X.b dX7_easiestOf_7 ki_0 ?_
  refine lv_istore (lv' := [(5, .int 0), (4, .int 0), (3, .int 0), (2, .int (-1)), (0, .ref (ad 0)), (1, .int x1)]) X.x X.b dX7_easiestOf_8 hl (Nat.le_of_ble_eq_true rfl) rfl (fun ls hl => ?_)
  exact L10 zfuel ms x1 (-1) 0 0 0 hf _ _ _ Z (lv_sub hl [4, 5, 3, 2, 1, 0] rfl)
set_option maxRecDepth 100000 in
set_option maxHeartbeats 4000000 in
theorem mX7_easiest (l : Launch) (Δ : zE) (ad : Nat → Nat) (thr : Int32) (saved : Int32) (mlen : Int32) (spot : Int32) (reads : Int32) (hash : Int64) (ms : Nat → Int32) (mpast : Nat → Int32) (mtext : Nat → Int32) (mread : Nat → Int32) (x1 : Int32) {res : Int32 × Int32} (hf : fX7_easiest thr ms x1 = some res) : zMet l Δ yX7_easiest cX7_easiest 2 (some .int) 6 145 [.ref (ad 0), .int x1] (wX7 Δ ad thr saved mlen spot reads hash ms mpast mtext mread) (wX7 Δ ad res.2 saved mlen spot reads hash ms mpast mtext mread) (some (.int res.1)) := by
  refine z_start (by decide +kernel) (Nat.le_of_ble_eq_true rfl) ?_
  intro p e s m args below meth c A ls X Z hl
  have hl : lv_has ls 2 [(0, .ref (ad 0)), (1, .int x1)] := hl
  rw [fX7_easiest.eq_1] at hf
  refine lv_aload_n X.x X.b dX7_easiest_0 rfl (lv_at hl 0 rfl) ?_
  refine lv_iload_n X.x X.b dX7_easiest_1 rfl (lv_at hl 1 rfl) ?_
  obtain ⟨q1, hq1, hf⟩ := zb_ok hf
  refine z_callS X Z hl (mX7_isReader l Δ  x1 hq1) wd_923 wd_924 wd_68 wd_925 ok_X7_isReader (w' := (wX7 Δ ad thr saved mlen spot reads hash ms mpast mtext mread)) zSub_nil rfl zput_nil rfl (rest := [.ref (ad 0)]) rfl (Nat.le_of_ble_eq_true rfl) ⟨Nat.le_of_ble_eq_true rfl, Nat.le_of_ble_eq_true rfl⟩ ⟨Nat.zero_le _, Nat.zero_le _⟩ (st1 := [.int q1, .ref (ad 0)]) rfl dX7_easiest_2 (fun H locs Z => ?_)
  refine lv_if_eq (tgt := 12) X.x X.b dX7_easiest_5 (by decide) (fun b1 => ?_) (fun b1 => ?_)
  · have hf := zif_t b1 hf
    refine lv_iconst (v := 1) X.x X.b dX7_easiest_12 ki_1 ?_
    obtain ⟨q2, hq2, hf⟩ := zb_ok hf
    refine z_callV X Z hl (mX7_refuses l Δ ad thr saved mlen spot reads hash ms mpast mtext mread 1 hq2) wd_862 wd_864 wd_18 wd_68 wd_865 ok_X7_refuses 7 rfl 0 rfl (w' := (wX7 Δ ad q2.2 saved mlen spot reads hash ms mpast mtext mread)) su_16 fs_16 pu_16 rfl (rest := []) rfl (Nat.le_of_ble_eq_true rfl) ⟨Nat.le_of_ble_eq_true rfl, Nat.le_of_ble_eq_true rfl⟩ ⟨Nat.zero_le _, Nat.zero_le _⟩ (st1 := [.int q2.1]) rfl dX7_easiest_13 (fun H locs Z => ?_)
    refine lv_if_eq (tgt := 23) X.x X.b dX7_easiest_16 (by decide) (fun b2 => ?_) (fun b2 => ?_)
    · have hf := zif_t b2 hf
      refine lv_aload_n X.x X.b dX7_easiest_23 rfl (lv_at hl 0 rfl) ?_
      refine lv_iload_n X.x X.b dX7_easiest_24 rfl (lv_at hl 1 rfl) ?_
      obtain ⟨q3, hq3, hf⟩ := zb_ok hf
      refine z_callV X Z hl (mX7_easiestOf l Δ ad q2.2 saved mlen spot reads hash ms mpast mtext mread x1 hq3) wd_1102 wd_1104 wd_55 wd_68 wd_1105 ok_X7_easiestOf 7 rfl 0 rfl (w' := (wX7 Δ ad q2.2 saved mlen spot reads hash ms mpast mtext mread)) su_16 fs_16 pu_16 rfl (rest := []) rfl (Nat.le_of_ble_eq_true rfl) ⟨Nat.le_of_ble_eq_true rfl, Nat.le_of_ble_eq_true rfl⟩ ⟨Nat.zero_le _, Nat.zero_le _⟩ (st1 := [.int q3]) rfl dX7_easiest_25 (fun H locs Z => ?_)
      cases hf
      exact z_iret X Z dX7_easiest_28
    · have hf := zif_f b2 hf
      refine lv_iconst (v := 0) X.x X.b dX7_easiest_19 ki_0 ?_
      refine lv_goto (tgt := 28) X.x X.b dX7_easiest_20 (by decide) ?_
      cases hf
      exact z_iret X Z dX7_easiest_28
  · have hf := zif_f b1 hf
    refine lv_iconst (v := 0) X.x X.b dX7_easiest_8 ki_0 ?_
    refine lv_goto (tgt := 13) X.x X.b dX7_easiest_9 (by decide) ?_
    obtain ⟨q4, hq4, hf⟩ := zb_ok hf
    refine z_callV X Z hl (mX7_refuses l Δ ad thr saved mlen spot reads hash ms mpast mtext mread 0 hq4) wd_862 wd_864 wd_18 wd_68 wd_865 ok_X7_refuses 7 rfl 0 rfl (w' := (wX7 Δ ad q4.2 saved mlen spot reads hash ms mpast mtext mread)) su_16 fs_16 pu_16 rfl (rest := []) rfl (Nat.le_of_ble_eq_true rfl) ⟨Nat.le_of_ble_eq_true rfl, Nat.le_of_ble_eq_true rfl⟩ ⟨Nat.zero_le _, Nat.zero_le _⟩ (st1 := [.int q4.1]) rfl dX7_easiest_13 (fun H locs Z => ?_)
    refine lv_if_eq (tgt := 23) X.x X.b dX7_easiest_16 (by decide) (fun b3 => ?_) (fun b3 => ?_)
    · have hf := zif_t b3 hf
      refine lv_aload_n X.x X.b dX7_easiest_23 rfl (lv_at hl 0 rfl) ?_
      refine lv_iload_n X.x X.b dX7_easiest_24 rfl (lv_at hl 1 rfl) ?_
      obtain ⟨q5, hq5, hf⟩ := zb_ok hf
      refine z_callV X Z hl (mX7_easiestOf l Δ ad q4.2 saved mlen spot reads hash ms mpast mtext mread x1 hq5) wd_1102 wd_1104 wd_55 wd_68 wd_1105 ok_X7_easiestOf 7 rfl 0 rfl (w' := (wX7 Δ ad q4.2 saved mlen spot reads hash ms mpast mtext mread)) su_16 fs_16 pu_16 rfl (rest := []) rfl (Nat.le_of_ble_eq_true rfl) ⟨Nat.le_of_ble_eq_true rfl, Nat.le_of_ble_eq_true rfl⟩ ⟨Nat.zero_le _, Nat.zero_le _⟩ (st1 := [.int q5]) rfl dX7_easiest_25 (fun H locs Z => ?_)
      cases hf
      exact z_iret X Z dX7_easiest_28
    · have hf := zif_f b3 hf
      refine lv_iconst (v := 0) X.x X.b dX7_easiest_19 ki_0 ?_
      refine lv_goto (tgt := 28) X.x X.b dX7_easiest_20 (by decide) ?_
      cases hf
      exact z_iret X Z dX7_easiest_28
set_option maxRecDepth 100000 in
set_option maxHeartbeats 4000000 in
theorem mX7_enoughOf (l : Launch) (Δ : zE) (ad : Nat → Nat) (thr : Int32) (saved : Int32) (mlen : Int32) (spot : Int32) (reads : Int32) (hash : Int64) (ms : Nat → Int32) (mpast : Nat → Int32) (mtext : Nat → Int32) (mread : Nat → Int32) (x1 : Int32) {res : Int32} (hf : fX7_enoughOf ms x1 = some res) : zMet l Δ yX7_enoughOf cX7_enoughOf 5 (some .int) 4 92 [.ref (ad 0), .int x1] (wX7 Δ ad thr saved mlen spot reads hash ms mpast mtext mread) (wX7 Δ ad thr saved mlen spot reads hash ms mpast mtext mread) (some (.int res)) := by
  refine z_start (by decide +kernel) (Nat.le_of_ble_eq_true rfl) ?_
  intro p e s m args below meth c A ls X Z hl
  have hl : lv_has ls 5 [(0, .ref (ad 0)), (1, .int x1)] := hl
  have L4 : ∀ (k : Nat) (ms : Nat → Int32) (v1 : Int32) (v2 : Int32) (v3 : Int32), fX7_enoughOf_4 k ms v1 v2 v3 = some res → ∀ (H : Heap) (locs : List Loc) (ls : Array Slot), zW Δ A s.heap (wX7 Δ ad thr saved mlen spot reads hash ms mpast mtext mread) H locs → lv_has ls 5 [(0, .ref (ad 0)), (1, .int v1), (2, .int v2), (3, .int v3)] → W p l e { frames := 4, cells := 0, slots := 0, locals := 92 } s m args below meth c H locs 0 0 (zEnd Δ below args s 0 0 A (some (.int res)) (wX7 Δ ad thr saved mlen spot reads hash ms mpast mtext mread)) (F0 m 4 ls []) := by
    intro k
    induction k with
    | zero =>
      intro ms v1 v2 v3 hf
      rw [fX7_enoughOf_4.eq_1] at hf
      cases hf
    | succ k ih =>
      intro ms v1 v2 v3 hf H locs ls Z hl
      rw [fX7_enoughOf_4.eq_2] at hf
      refine lv_iload_n X.x X.b dX7_enoughOf_4 rfl (lv_at hl 3 rfl) ?_
      refine lv_aload_n X.x X.b dX7_enoughOf_5 rfl (lv_at hl 0 rfl) ?_
      refine z_gf inG_X7 (ci := 7) rfl 1 (Nat.le_of_ble_eq_true rfl) rfl X Z wd_823 0 rfl (v := .ref (ad 1)) rfl dX7_enoughOf_6 ?_
      refine lv_iconst (v := 0) X.x X.b dX7_enoughOf_9 ki_0 ?_
      refine z_iald X Z 1 rfl (zvin (by decide)) dX7_enoughOf_10 ?_
      refine lv_icmp_ge (tgt := 58) X.x X.b dX7_enoughOf_11 (by decide) (fun b1 => ?_) (fun b1 => ?_)
      · have hf := zif_t b1 hf
        refine lv_iload_n X.x X.b dX7_enoughOf_58 rfl (lv_at hl 2 rfl) ?_
        cases hf
        exact z_iret X Z dX7_enoughOf_59
      · have hf := zif_f b1 hf
        refine lv_aload_n X.x X.b dX7_enoughOf_14 rfl (lv_at hl 0 rfl) ?_
        refine lv_iload_n X.x X.b dX7_enoughOf_15 rfl (lv_at hl 1 rfl) ?_
        refine lv_iload_n X.x X.b dX7_enoughOf_16 rfl (lv_at hl 3 rfl) ?_
        obtain ⟨q1, hq1, hf⟩ := zb_ok hf
        refine z_callV X Z hl (mX7_known l Δ ad thr saved mlen spot reads hash ms mpast mtext mread v1 v3 hq1) wd_908 wd_910 wd_25 wd_68 wd_911 ok_X7_known 7 rfl 0 rfl (w' := (wX7 Δ ad thr saved mlen spot reads hash ms mpast mtext mread)) su_16 fs_16 pu_16 rfl (rest := []) rfl (Nat.le_of_ble_eq_true rfl) ⟨Nat.le_of_ble_eq_true rfl, Nat.le_of_ble_eq_true rfl⟩ ⟨Nat.zero_le _, Nat.zero_le _⟩ (st1 := [.int q1]) rfl dX7_enoughOf_17 (fun H locs Z => ?_)
        refine lv_iconst (v := 2) X.x X.b dX7_enoughOf_20 ki_2 ?_
        refine lv_icmp_ne (tgt := 28) X.x X.b dX7_enoughOf_21 (by decide) (fun b2 => ?_) (fun b2 => ?_)
        · have hf := zif_f b2 hf
          refine lv_aload_n X.x X.b dX7_enoughOf_28 rfl (lv_at hl 0 rfl) ?_
          refine lv_iload_n X.x X.b dX7_enoughOf_29 rfl (lv_at hl 1 rfl) ?_
          refine lv_iload_n X.x X.b dX7_enoughOf_30 rfl (lv_at hl 3 rfl) ?_
          obtain ⟨q2, hq2, hf⟩ := zb_ok hf
          refine z_callV X Z hl (mX7_missed l Δ ad thr saved mlen spot reads hash ms mpast mtext mread v1 v3 hq2) wd_930 wd_932 wd_27 wd_68 wd_933 ok_X7_missed 7 rfl 0 rfl (w' := (wX7 Δ ad thr saved mlen spot reads hash ms mpast mtext mread)) su_16 fs_16 pu_16 rfl (rest := []) rfl (Nat.le_of_ble_eq_true rfl) ⟨Nat.le_of_ble_eq_true rfl, Nat.le_of_ble_eq_true rfl⟩ ⟨Nat.zero_le _, Nat.zero_le _⟩ (st1 := [.int q2]) rfl dX7_enoughOf_31 (fun H locs Z => ?_)
          obtain ⟨q3, hq3, hf⟩ := zb_ok hf
          refine z_callS X Z hl (mX7_ones l Δ  q2 hq3) wd_912 wd_913 wd_68 wd_914 ok_X7_ones (w' := (wX7 Δ ad thr saved mlen spot reads hash ms mpast mtext mread)) zSub_nil rfl zput_nil rfl (rest := []) rfl (Nat.le_of_ble_eq_true rfl) ⟨Nat.le_of_ble_eq_true rfl, Nat.le_of_ble_eq_true rfl⟩ ⟨Nat.zero_le _, Nat.zero_le _⟩ (st1 := [.int q3]) rfl dX7_enoughOf_34 (fun H locs Z => ?_)
          refine lv_istore (lv' := [(4, .int q3), (0, .ref (ad 0)), (1, .int v1), (2, .int v2), (3, .int v3)]) X.x X.b dX7_enoughOf_37 hl (Nat.le_of_ble_eq_true rfl) rfl (fun ls hl => ?_)
          refine lv_iload X.x X.b dX7_enoughOf_39 (lv_at hl 0 rfl) ?_
          refine lv_iload_n X.x X.b dX7_enoughOf_41 rfl (lv_at hl 3 rfl) ?_
          refine lv_icmp_le (tgt := 50) X.x X.b dX7_enoughOf_42 (by decide) (fun b3 => ?_) (fun b3 => ?_)
          · have hf := zif_t b3 hf
            refine lv_iload_n X.x X.b dX7_enoughOf_50 rfl (lv_at hl 3 rfl) ?_
            refine lv_istore_n (lv' := [(2, .int v2), (4, .int q3), (0, .ref (ad 0)), (1, .int v1), (3, .int v3)]) X.x X.b dX7_enoughOf_51 rfl hl (Nat.le_of_ble_eq_true rfl) rfl (fun ls hl => ?_)
            refine lv_iinc (v := (v3 + 1)) (lv' := [(3, .int (v3 + 1)), (2, .int v2), (4, .int q3), (0, .ref (ad 0)), (1, .int v1)]) X.x X.b dX7_enoughOf_52 hl (k := 4) rfl (congrArg _ ki_1) (Nat.le_of_ble_eq_true rfl) rfl (fun ls hl => ?_)
            refine lv_goto (tgt := 4) X.x X.b dX7_enoughOf_55 (by decide) ?_
            exact ih ms v1 v2 (v3 + 1) hf _ _ _ Z (lv_sub hl [3, 4, 1, 0] rfl)
          · have hf := zif_f b3 hf
            refine lv_iload X.x X.b dX7_enoughOf_45 (lv_at hl 0 rfl) ?_
            refine lv_goto (tgt := 51) X.x X.b dX7_enoughOf_47 (by decide) ?_
            refine lv_istore_n (lv' := [(2, .int q3), (4, .int q3), (0, .ref (ad 0)), (1, .int v1), (3, .int v3)]) X.x X.b dX7_enoughOf_51 rfl hl (Nat.le_of_ble_eq_true rfl) rfl (fun ls hl => ?_)
            refine lv_iinc (v := (v3 + 1)) (lv' := [(3, .int (v3 + 1)), (2, .int q3), (4, .int q3), (0, .ref (ad 0)), (1, .int v1)]) X.x X.b dX7_enoughOf_52 hl (k := 4) rfl (congrArg _ ki_1) (Nat.le_of_ble_eq_true rfl) rfl (fun ls hl => ?_)
            refine lv_goto (tgt := 4) X.x X.b dX7_enoughOf_55 (by decide) ?_
            exact ih ms v1 q3 (v3 + 1) hf _ _ _ Z (lv_sub hl [3, 4, 1, 0] rfl)
        · have hf := zif_t b2 hf
          refine lv_iconst (v := 0) X.x X.b dX7_enoughOf_24 ki_0 ?_
          refine lv_goto (tgt := 37) X.x X.b dX7_enoughOf_25 (by decide) ?_
          refine lv_istore (lv' := [(4, .int 0), (0, .ref (ad 0)), (1, .int v1), (2, .int v2), (3, .int v3)]) X.x X.b dX7_enoughOf_37 hl (Nat.le_of_ble_eq_true rfl) rfl (fun ls hl => ?_)
          refine lv_iload X.x X.b dX7_enoughOf_39 (lv_at hl 0 rfl) ?_
          refine lv_iload_n X.x X.b dX7_enoughOf_41 rfl (lv_at hl 3 rfl) ?_
          refine lv_icmp_le (tgt := 50) X.x X.b dX7_enoughOf_42 (by decide) (fun b4 => ?_) (fun b4 => ?_)
          · have hf := zif_t b4 hf
            refine lv_iload_n X.x X.b dX7_enoughOf_50 rfl (lv_at hl 3 rfl) ?_
            refine lv_istore_n (lv' := [(2, .int v2), (4, .int 0), (0, .ref (ad 0)), (1, .int v1), (3, .int v3)]) X.x X.b dX7_enoughOf_51 rfl hl (Nat.le_of_ble_eq_true rfl) rfl (fun ls hl => ?_)
            refine lv_iinc (v := (v3 + 1)) (lv' := [(3, .int (v3 + 1)), (2, .int v2), (4, .int 0), (0, .ref (ad 0)), (1, .int v1)]) X.x X.b dX7_enoughOf_52 hl (k := 4) rfl (congrArg _ ki_1) (Nat.le_of_ble_eq_true rfl) rfl (fun ls hl => ?_)
            refine lv_goto (tgt := 4) X.x X.b dX7_enoughOf_55 (by decide) ?_
            exact ih ms v1 v2 (v3 + 1) hf _ _ _ Z (lv_sub hl [3, 4, 1, 0] rfl)
          · have hf := zif_f b4 hf
            refine lv_iload X.x X.b dX7_enoughOf_45 (lv_at hl 0 rfl) ?_
            refine lv_goto (tgt := 51) X.x X.b dX7_enoughOf_47 (by decide) ?_
            refine lv_istore_n (lv' := [(2, .int 0), (4, .int 0), (0, .ref (ad 0)), (1, .int v1), (3, .int v3)]) X.x X.b dX7_enoughOf_51 rfl hl (Nat.le_of_ble_eq_true rfl) rfl (fun ls hl => ?_)
            refine lv_iinc (v := (v3 + 1)) (lv' := [(3, .int (v3 + 1)), (2, .int 0), (4, .int 0), (0, .ref (ad 0)), (1, .int v1)]) X.x X.b dX7_enoughOf_52 hl (k := 4) rfl (congrArg _ ki_1) (Nat.le_of_ble_eq_true rfl) rfl (fun ls hl => ?_)
            refine lv_goto (tgt := 4) X.x X.b dX7_enoughOf_55 (by decide) ?_
            exact ih ms v1 0 (v3 + 1) hf _ _ _ Z (lv_sub hl [3, 4, 1, 0] rfl)
  rw [fX7_enoughOf.eq_1] at hf
  refine lv_iconst (v := 0) X.x X.b dX7_enoughOf_0 ki_0 ?_
  refine lv_istore_n (lv' := [(2, .int 0), (0, .ref (ad 0)), (1, .int x1)]) X.x X.b dX7_enoughOf_1 rfl hl (Nat.le_of_ble_eq_true rfl) rfl (fun ls hl => ?_)
  refine lv_iconst (v := 0) X.x X.b dX7_enoughOf_2 ki_0 ?_
  refine lv_istore_n (lv' := [(3, .int 0), (2, .int 0), (0, .ref (ad 0)), (1, .int x1)]) X.x X.b dX7_enoughOf_3 rfl hl (Nat.le_of_ble_eq_true rfl) rfl (fun ls hl => ?_)
  exact L4 zfuel ms x1 0 0 hf _ _ _ Z (lv_sub hl [2, 3, 1, 0] rfl)
set_option maxRecDepth 100000 in
set_option maxHeartbeats 4000000 in
theorem mX7_enough (l : Launch) (Δ : zE) (ad : Nat → Nat) (thr : Int32) (saved : Int32) (mlen : Int32) (spot : Int32) (reads : Int32) (hash : Int64) (ms : Nat → Int32) (mpast : Nat → Int32) (mtext : Nat → Int32) (mread : Nat → Int32) (x1 : Int32) {res : Int32 × Int32} (hf : fX7_enough thr ms x1 = some res) : zMet l Δ yX7_enough cX7_enough 2 (some .int) 5 116 [.ref (ad 0), .int x1] (wX7 Δ ad thr saved mlen spot reads hash ms mpast mtext mread) (wX7 Δ ad res.2 saved mlen spot reads hash ms mpast mtext mread) (some (.int res.1)) := by
  refine z_start (by decide +kernel) (Nat.le_of_ble_eq_true rfl) ?_
  intro p e s m args below meth c A ls X Z hl
  have hl : lv_has ls 2 [(0, .ref (ad 0)), (1, .int x1)] := hl
  rw [fX7_enough.eq_1] at hf
  refine lv_aload_n X.x X.b dX7_enough_0 rfl (lv_at hl 0 rfl) ?_
  refine lv_iload_n X.x X.b dX7_enough_1 rfl (lv_at hl 1 rfl) ?_
  obtain ⟨q1, hq1, hf⟩ := zb_ok hf
  refine z_callS X Z hl (mX7_isReader l Δ  x1 hq1) wd_923 wd_924 wd_68 wd_925 ok_X7_isReader (w' := (wX7 Δ ad thr saved mlen spot reads hash ms mpast mtext mread)) zSub_nil rfl zput_nil rfl (rest := [.ref (ad 0)]) rfl (Nat.le_of_ble_eq_true rfl) ⟨Nat.le_of_ble_eq_true rfl, Nat.le_of_ble_eq_true rfl⟩ ⟨Nat.zero_le _, Nat.zero_le _⟩ (st1 := [.int q1, .ref (ad 0)]) rfl dX7_enough_2 (fun H locs Z => ?_)
  refine lv_if_eq (tgt := 12) X.x X.b dX7_enough_5 (by decide) (fun b1 => ?_) (fun b1 => ?_)
  · have hf := zif_t b1 hf
    refine lv_iconst (v := 1) X.x X.b dX7_enough_12 ki_1 ?_
    obtain ⟨q2, hq2, hf⟩ := zb_ok hf
    refine z_callV X Z hl (mX7_refuses l Δ ad thr saved mlen spot reads hash ms mpast mtext mread 1 hq2) wd_862 wd_864 wd_18 wd_68 wd_865 ok_X7_refuses 7 rfl 0 rfl (w' := (wX7 Δ ad q2.2 saved mlen spot reads hash ms mpast mtext mread)) su_16 fs_16 pu_16 rfl (rest := []) rfl (Nat.le_of_ble_eq_true rfl) ⟨Nat.le_of_ble_eq_true rfl, Nat.le_of_ble_eq_true rfl⟩ ⟨Nat.zero_le _, Nat.zero_le _⟩ (st1 := [.int q2.1]) rfl dX7_enough_13 (fun H locs Z => ?_)
    refine lv_if_eq (tgt := 23) X.x X.b dX7_enough_16 (by decide) (fun b2 => ?_) (fun b2 => ?_)
    · have hf := zif_t b2 hf
      refine lv_aload_n X.x X.b dX7_enough_23 rfl (lv_at hl 0 rfl) ?_
      refine lv_iload_n X.x X.b dX7_enough_24 rfl (lv_at hl 1 rfl) ?_
      obtain ⟨q3, hq3, hf⟩ := zb_ok hf
      refine z_callV X Z hl (mX7_enoughOf l Δ ad q2.2 saved mlen spot reads hash ms mpast mtext mread x1 hq3) wd_1110 wd_1112 wd_56 wd_68 wd_1113 ok_X7_enoughOf 7 rfl 0 rfl (w' := (wX7 Δ ad q2.2 saved mlen spot reads hash ms mpast mtext mread)) su_16 fs_16 pu_16 rfl (rest := []) rfl (Nat.le_of_ble_eq_true rfl) ⟨Nat.le_of_ble_eq_true rfl, Nat.le_of_ble_eq_true rfl⟩ ⟨Nat.zero_le _, Nat.zero_le _⟩ (st1 := [.int q3]) rfl dX7_enough_25 (fun H locs Z => ?_)
      cases hf
      exact z_iret X Z dX7_enough_28
    · have hf := zif_f b2 hf
      refine lv_iconst (v := 0) X.x X.b dX7_enough_19 ki_0 ?_
      refine lv_goto (tgt := 28) X.x X.b dX7_enough_20 (by decide) ?_
      cases hf
      exact z_iret X Z dX7_enough_28
  · have hf := zif_f b1 hf
    refine lv_iconst (v := 0) X.x X.b dX7_enough_8 ki_0 ?_
    refine lv_goto (tgt := 13) X.x X.b dX7_enough_9 (by decide) ?_
    obtain ⟨q4, hq4, hf⟩ := zb_ok hf
    refine z_callV X Z hl (mX7_refuses l Δ ad thr saved mlen spot reads hash ms mpast mtext mread 0 hq4) wd_862 wd_864 wd_18 wd_68 wd_865 ok_X7_refuses 7 rfl 0 rfl (w' := (wX7 Δ ad q4.2 saved mlen spot reads hash ms mpast mtext mread)) su_16 fs_16 pu_16 rfl (rest := []) rfl (Nat.le_of_ble_eq_true rfl) ⟨Nat.le_of_ble_eq_true rfl, Nat.le_of_ble_eq_true rfl⟩ ⟨Nat.zero_le _, Nat.zero_le _⟩ (st1 := [.int q4.1]) rfl dX7_enough_13 (fun H locs Z => ?_)
    refine lv_if_eq (tgt := 23) X.x X.b dX7_enough_16 (by decide) (fun b3 => ?_) (fun b3 => ?_)
    · have hf := zif_t b3 hf
      refine lv_aload_n X.x X.b dX7_enough_23 rfl (lv_at hl 0 rfl) ?_
      refine lv_iload_n X.x X.b dX7_enough_24 rfl (lv_at hl 1 rfl) ?_
      obtain ⟨q5, hq5, hf⟩ := zb_ok hf
      refine z_callV X Z hl (mX7_enoughOf l Δ ad q4.2 saved mlen spot reads hash ms mpast mtext mread x1 hq5) wd_1110 wd_1112 wd_56 wd_68 wd_1113 ok_X7_enoughOf 7 rfl 0 rfl (w' := (wX7 Δ ad q4.2 saved mlen spot reads hash ms mpast mtext mread)) su_16 fs_16 pu_16 rfl (rest := []) rfl (Nat.le_of_ble_eq_true rfl) ⟨Nat.le_of_ble_eq_true rfl, Nat.le_of_ble_eq_true rfl⟩ ⟨Nat.zero_le _, Nat.zero_le _⟩ (st1 := [.int q5]) rfl dX7_enough_25 (fun H locs Z => ?_)
      cases hf
      exact z_iret X Z dX7_enough_28
    · have hf := zif_f b3 hf
      refine lv_iconst (v := 0) X.x X.b dX7_enough_19 ki_0 ?_
      refine lv_goto (tgt := 28) X.x X.b dX7_enough_20 (by decide) ?_
      cases hf
      exact z_iret X Z dX7_enough_28
set_option maxRecDepth 100000 in
set_option maxHeartbeats 4000000 in
theorem mX7_share (l : Launch) (Δ : zE) (ad : Nat → Nat) (thr : Int32) (saved : Int32) (mlen : Int32) (spot : Int32) (reads : Int32) (hash : Int64) (ms : Nat → Int32) (mpast : Nat → Int32) (mtext : Nat → Int32) (mread : Nat → Int32)  {res : UInt64} (hf : fX7_share ms = some res) : zMet l Δ yX7_share cX7_share 3 (some .double) 2 46 [.ref (ad 0)] (wX7 Δ ad thr saved mlen spot reads hash ms mpast mtext mread) (wX7 Δ ad thr saved mlen spot reads hash ms mpast mtext mread) (some (.double res)) := by
  refine z_start (by decide +kernel) (Nat.le_of_ble_eq_true rfl) ?_
  intro p e s m args below meth c A ls X Z hl
  have hl : lv_has ls 3 [(0, .ref (ad 0))] := hl
  have L4 : ∀ (k : Nat) (ms : Nat → Int32) (v1 : Int32) (v2 : Int32), fX7_share_4 k ms v1 v2 = some res → ∀ (H : Heap) (locs : List Loc) (ls : Array Slot), zW Δ A s.heap (wX7 Δ ad thr saved mlen spot reads hash ms mpast mtext mread) H locs → lv_has ls 3 [(0, .ref (ad 0)), (1, .int v1), (2, .int v2)] → W p l e { frames := 2, cells := 0, slots := 0, locals := 46 } s m args below meth c H locs 0 0 (zEnd Δ below args s 0 0 A (some (.double res)) (wX7 Δ ad thr saved mlen spot reads hash ms mpast mtext mread)) (F0 m 4 ls []) := by
    intro k
    induction k with
    | zero =>
      intro ms v1 v2 hf
      rw [fX7_share_4.eq_1] at hf
      cases hf
    | succ k ih =>
      intro ms v1 v2 hf H locs ls Z hl
      rw [fX7_share_4.eq_2] at hf
      refine lv_iload_n X.x X.b dX7_share_4 rfl (lv_at hl 2 rfl) ?_
      refine lv_bipush (v := 6) X.x X.b dX7_share_5 kb_6 ?_
      refine lv_icmp_ge (tgt := 25) X.x X.b dX7_share_7 (by decide) (fun b1 => ?_) (fun b1 => ?_)
      · have hf := zif_t b1 hf
        refine lv_aload_n X.x X.b dX7_share_25 rfl (lv_at hl 0 rfl) ?_
        refine z_gf inG_X7 (ci := 7) rfl 1 (Nat.le_of_ble_eq_true rfl) rfl X Z wd_823 0 rfl (v := .ref (ad 1)) rfl dX7_share_26 ?_
        refine lv_iconst (v := 0) X.x X.b dX7_share_29 ki_0 ?_
        refine z_iald X Z 1 rfl (zvin (by decide)) dX7_share_30 ?_
        refine lv_if_ne (tgt := 38) X.x X.b dX7_share_31 (by decide) (fun b2 => ?_) (fun b2 => ?_)
        · have hf := zif_f b2 hf
          refine lv_iload_n X.x X.b dX7_share_38 rfl (lv_at hl 1 rfl) ?_
          refine lv_i2d X.x X.b dX7_share_39 ?_
          refine lv_bipush (v := 6) X.x X.b dX7_share_40 kb_6 ?_
          refine lv_aload_n X.x X.b dX7_share_42 rfl (lv_at hl 0 rfl) ?_
          refine z_gf inG_X7 (ci := 7) rfl 1 (Nat.le_of_ble_eq_true rfl) rfl X Z wd_823 0 rfl (v := .ref (ad 1)) rfl dX7_share_43 ?_
          refine lv_iconst (v := 0) X.x X.b dX7_share_46 ki_0 ?_
          refine z_iald X Z 1 rfl (zvin (by decide)) dX7_share_47 ?_
          refine lv_imul X.x X.b dX7_share_48 ?_
          refine lv_i2d X.x X.b dX7_share_49 ?_
          obtain ⟨b3, hf⟩ := zg_nn hf
          refine lv_ddiv X.x X.b dX7_share_50 b3 ?_
          cases hf
          exact z_dret X Z dX7_share_51
        · have hf := zif_t b2 hf
          refine lv_dconst1 X.x X.b dX7_share_34 ?_
          refine lv_goto (tgt := 51) X.x X.b dX7_share_35 (by decide) ?_
          cases hf
          exact z_dret X Z dX7_share_51
      · have hf := zif_f b1 hf
        refine lv_iload_n X.x X.b dX7_share_10 rfl (lv_at hl 1 rfl) ?_
        refine lv_aload_n X.x X.b dX7_share_11 rfl (lv_at hl 0 rfl) ?_
        refine lv_iload_n X.x X.b dX7_share_12 rfl (lv_at hl 2 rfl) ?_
        refine lv_iconst (v := 2) X.x X.b dX7_share_13 ki_2 ?_
        obtain ⟨q1, hq1, hf⟩ := zb_ok hf
        refine z_callV X Z hl (mX7_manyKnown l Δ ad thr saved mlen spot reads hash ms mpast mtext mread v2 2 hq1) wd_1038 wd_1040 wd_44 wd_68 wd_1041 ok_X7_manyKnown 7 rfl 0 rfl (w' := (wX7 Δ ad thr saved mlen spot reads hash ms mpast mtext mread)) su_16 fs_16 pu_16 rfl (rest := [.int v1]) rfl (Nat.le_of_ble_eq_true rfl) ⟨Nat.le_of_ble_eq_true rfl, Nat.le_of_ble_eq_true rfl⟩ ⟨Nat.zero_le _, Nat.zero_le _⟩ (st1 := [.int q1, .int v1]) rfl dX7_share_14 (fun H locs Z => ?_)
        refine lv_iadd X.x X.b dX7_share_17 ?_
        refine lv_istore_n (lv' := [(1, .int (v1 + q1)), (0, .ref (ad 0)), (2, .int v2)]) X.x X.b dX7_share_18 rfl hl (Nat.le_of_ble_eq_true rfl) rfl (fun ls hl => ?_)
        refine lv_iinc (v := (v2 + 1)) (lv' := [(2, .int (v2 + 1)), (1, .int (v1 + q1)), (0, .ref (ad 0))]) X.x X.b dX7_share_19 hl (k := 2) rfl (congrArg _ ki_1) (Nat.le_of_ble_eq_true rfl) rfl (fun ls hl => ?_)
        refine lv_goto (tgt := 4) X.x X.b dX7_share_22 (by decide) ?_
        exact ih ms (v1 + q1) (v2 + 1) hf _ _ _ Z (lv_sub hl [2, 1, 0] rfl)
  rw [fX7_share.eq_1] at hf
  refine lv_iconst (v := 0) X.x X.b dX7_share_0 ki_0 ?_
  refine lv_istore_n (lv' := [(1, .int 0), (0, .ref (ad 0))]) X.x X.b dX7_share_1 rfl hl (Nat.le_of_ble_eq_true rfl) rfl (fun ls hl => ?_)
  refine lv_iconst (v := 0) X.x X.b dX7_share_2 ki_0 ?_
  refine lv_istore_n (lv' := [(2, .int 0), (1, .int 0), (0, .ref (ad 0))]) X.x X.b dX7_share_3 rfl hl (Nat.le_of_ble_eq_true rfl) rfl (fun ls hl => ?_)
  exact L4 zfuel ms 0 0 hf _ _ _ Z (lv_sub hl [2, 1, 0] rfl)
set_option maxRecDepth 100000 in
set_option maxHeartbeats 4000000 in
theorem mX7_readShare (l : Launch) (Δ : zE) (ad : Nat → Nat) (thr : Int32) (saved : Int32) (mlen : Int32) (spot : Int32) (reads : Int32) (hash : Int64) (ms : Nat → Int32) (mpast : Nat → Int32) (mtext : Nat → Int32) (mread : Nat → Int32)  {res : UInt64 × Int32} (hf : fX7_readShare thr ms = some res) : zMet l Δ yX7_readShare cX7_readShare 1 (some .double) 3 68 [.ref (ad 0)] (wX7 Δ ad thr saved mlen spot reads hash ms mpast mtext mread) (wX7 Δ ad res.2 saved mlen spot reads hash ms mpast mtext mread) (some (.double res.1)) := by
  refine z_start (by decide +kernel) (Nat.le_of_ble_eq_true rfl) ?_
  intro p e s m args below meth c A ls X Z hl
  have hl : lv_has ls 1 [(0, .ref (ad 0))] := hl
  rw [fX7_readShare.eq_1] at hf
  refine lv_aload_n X.x X.b dX7_readShare_0 rfl (lv_at hl 0 rfl) ?_
  refine lv_iconst (v := 0) X.x X.b dX7_readShare_1 ki_0 ?_
  refine z_pf (w' := (wX7 Δ ad 0 saved mlen spot reads hash ms mpast mtext mread)) inG_X7 (ci := 7) rfl tyX7 tyX7_ok nmX7 0 (Nat.le_of_ble_eq_true rfl) rfl rfl X Z wd_822 0 rfl rfl rfl (Nat.le_of_ble_eq_true rfl) rfl dX7_readShare_2 (fun H locs Z => ?_)
  refine lv_aload_n X.x X.b dX7_readShare_5 rfl (lv_at hl 0 rfl) ?_
  obtain ⟨q1, hq1, hf⟩ := zb_ok hf
  refine z_callV X Z hl (mX7_share l Δ ad 0 saved mlen spot reads hash ms mpast mtext mread hq1) wd_1118 wd_1120 wd_57 wd_68 wd_1121 ok_X7_share 7 rfl 0 rfl (w' := (wX7 Δ ad 0 saved mlen spot reads hash ms mpast mtext mread)) su_16 fs_16 pu_16 rfl (rest := []) rfl (Nat.le_of_ble_eq_true rfl) ⟨Nat.le_of_ble_eq_true rfl, Nat.le_of_ble_eq_true rfl⟩ ⟨Nat.zero_le _, Nat.zero_le _⟩ (st1 := [.double q1]) rfl dX7_readShare_6 (fun H locs Z => ?_)
  cases hf
  exact z_dret X Z dX7_readShare_9
set_option maxRecDepth 100000 in
set_option maxHeartbeats 4000000 in
theorem mX7_mixes (l : Launch) (Δ : zE) (ad : Nat → Nat) (thr : Int32) (saved : Int32) (mlen : Int32) (spot : Int32) (reads : Int32) (hash : Int64) (ms : Nat → Int32) (mpast : Nat → Int32) (mtext : Nat → Int32) (mread : Nat → Int32) (x1 : Int64) {res : Int64} (hf : fX7_mixes hash x1 = some res) : zMet l Δ yX7_mixes cX7_mixes 3 none 0 0 [.ref (ad 0), .long x1] (wX7 Δ ad thr saved mlen spot reads hash ms mpast mtext mread) (wX7 Δ ad thr saved mlen spot reads res ms mpast mtext mread) none := by
  refine z_start (by decide +kernel) (Nat.le_of_ble_eq_true rfl) ?_
  intro p e s m args below meth c A ls X Z hl
  have hl : lv_has ls 3 [(0, .ref (ad 0)), (1, .long x1)] := hl
  rw [fX7_mixes.eq_1] at hf
  refine lv_aload_n X.x X.b dX7_mixes_0 rfl (lv_at hl 0 rfl) ?_
  refine lv_ldc2 (v := 31) X.x X.b X.own (X.ts _ wd_1131) dX7_mixes_1 ?_
  refine lv_aload_n X.x X.b dX7_mixes_4 rfl (lv_at hl 0 rfl) ?_
  refine z_gf inG_X7 (ci := 7) rfl 9 (Nat.le_of_ble_eq_true rfl) rfl X Z wd_831 0 rfl (v := .long hash) rfl dX7_mixes_5 ?_
  refine lv_lmul X.x X.b dX7_mixes_8 ?_
  refine lv_lload_n X.x X.b dX7_mixes_9 rfl (lv_at hl 1 rfl) ?_
  refine lv_ladd X.x X.b dX7_mixes_10 ?_
  refine z_pf (w' := (wX7 Δ ad thr saved mlen spot reads ((31 * hash) + x1) ms mpast mtext mread)) inG_X7 (ci := 7) rfl tyX7 tyX7_ok nmX7 9 (Nat.le_of_ble_eq_true rfl) rfl rfl X Z wd_831 0 rfl rfl rfl (Nat.le_of_ble_eq_true rfl) rfl dX7_mixes_11 (fun H locs Z => ?_)
  cases hf
  exact z_vret X Z dX7_mixes_14
set_option maxRecDepth 100000 in
set_option maxHeartbeats 4000000 in
theorem mX7_mixesReader (l : Launch) (Δ : zE) (ad : Nat → Nat) (thr : Int32) (saved : Int32) (mlen : Int32) (spot : Int32) (reads : Int32) (hash : Int64) (ms : Nat → Int32) (mpast : Nat → Int32) (mtext : Nat → Int32) (mread : Nat → Int32) (x1 : Int32) {res : Int64} (hf : fX7_mixesReader hash ms x1 = some res) : zMet l Δ yX7_mixesReader cX7_mixesReader 3 none 6 145 [.ref (ad 0), .int x1] (wX7 Δ ad thr saved mlen spot reads hash ms mpast mtext mread) (wX7 Δ ad thr saved mlen spot reads res ms mpast mtext mread) none := by
  refine z_start (by decide +kernel) (Nat.le_of_ble_eq_true rfl) ?_
  intro p e s m args below meth c A ls X Z hl
  have hl : lv_has ls 3 [(0, .ref (ad 0)), (1, .int x1)] := hl
  have L76 : ∀ (k : Nat) (hash : Int64) (ms : Nat → Int32) (v1 : Int32) (v2 : Int32), fX7_mixesReader_76 k hash ms v1 v2 = some res → ∀ (H : Heap) (locs : List Loc) (ls : Array Slot), zW Δ A s.heap (wX7 Δ ad thr saved mlen spot reads hash ms mpast mtext mread) H locs → lv_has ls 3 [(0, .ref (ad 0)), (1, .int v1), (2, .int v2)] → W p l e { frames := 6, cells := 0, slots := 0, locals := 145 } s m args below meth c H locs 0 0 (zEnd Δ below args s 0 0 A none (wX7 Δ ad thr saved mlen spot reads res ms mpast mtext mread)) (F0 m 76 ls []) := by
    intro k
    induction k with
    | zero =>
      intro hash ms v1 v2 hf
      rw [fX7_mixesReader_76.eq_1] at hf
      cases hf
    | succ k ih =>
      intro hash ms v1 v2 hf H locs ls Z hl
      rw [fX7_mixesReader_76.eq_2] at hf
      refine lv_iload_n X.x X.b dX7_mixesReader_76 rfl (lv_at hl 2 rfl) ?_
      refine lv_iconst (v := 5) X.x X.b dX7_mixesReader_77 ki_5 ?_
      refine lv_icmp_ge (tgt := 115) X.x X.b dX7_mixesReader_78 (by decide) (fun b1 => ?_) (fun b1 => ?_)
      · have hf := zif_t b1 hf
        cases hf
        exact z_vret X Z dX7_mixesReader_115
      · have hf := zif_f b1 hf
        refine lv_aload_n X.x X.b dX7_mixesReader_81 rfl (lv_at hl 0 rfl) ?_
        refine z_gf inG_X7 (ci := 7) rfl 1 (Nat.le_of_ble_eq_true rfl) rfl X Z wd_823 0 rfl (v := .ref (ad 1)) rfl dX7_mixesReader_82 ?_
        refine lv_iconst (v := 0) X.x X.b dX7_mixesReader_85 ki_0 ?_
        refine z_iald X Z 1 rfl (zvin (by decide)) dX7_mixesReader_86 ?_
        refine lv_if_le (tgt := 115) X.x X.b dX7_mixesReader_87 (by decide) (fun b2 => ?_) (fun b2 => ?_)
        · have hf := zif_t b2 hf
          cases hf
          exact z_vret X Z dX7_mixesReader_115
        · have hf := zif_f b2 hf
          refine lv_aload_n X.x X.b dX7_mixesReader_90 rfl (lv_at hl 0 rfl) ?_
          refine lv_aload_n X.x X.b dX7_mixesReader_91 rfl (lv_at hl 0 rfl) ?_
          refine lv_iload_n X.x X.b dX7_mixesReader_92 rfl (lv_at hl 1 rfl) ?_
          refine lv_aload_n X.x X.b dX7_mixesReader_93 rfl (lv_at hl 0 rfl) ?_
          refine z_gf inG_X7 (ci := 7) rfl 1 (Nat.le_of_ble_eq_true rfl) rfl X Z wd_823 0 rfl (v := .ref (ad 1)) rfl dX7_mixesReader_94 ?_
          refine lv_iconst (v := 0) X.x X.b dX7_mixesReader_97 ki_0 ?_
          refine z_iald X Z 1 rfl (zvin (by decide)) dX7_mixesReader_98 ?_
          refine lv_iconst (v := 1) X.x X.b dX7_mixesReader_99 ki_1 ?_
          refine lv_isub X.x X.b dX7_mixesReader_100 ?_
          refine lv_iload_n X.x X.b dX7_mixesReader_101 rfl (lv_at hl 2 rfl) ?_
          obtain ⟨q1, hq1, hf⟩ := zb_ok hf
          refine z_callV X Z hl (mX7_recapOf l Δ ad thr saved mlen spot reads hash ms mpast mtext mread v1 ((ms (0 : Int32).toNatClampNeg) - 1) v2 hq1) wd_1094 wd_1096 wd_54 wd_68 wd_1097 ok_X7_recapOf 7 rfl 0 rfl (w' := (wX7 Δ ad thr saved mlen spot reads hash ms mpast mtext mread)) su_16 fs_16 pu_16 rfl (rest := [.ref (ad 0)]) rfl (Nat.le_of_ble_eq_true rfl) ⟨Nat.le_of_ble_eq_true rfl, Nat.le_of_ble_eq_true rfl⟩ ⟨Nat.zero_le _, Nat.zero_le _⟩ (st1 := [.int q1, .ref (ad 0)]) rfl dX7_mixesReader_102 (fun H locs Z => ?_)
          refine lv_i2l (v := (q1 : Int32).toInt64) X.x X.b dX7_mixesReader_105 rfl ?_
          obtain ⟨q2, hq2, hf⟩ := zb_ok hf
          refine z_callV X Z hl (mX7_mixes l Δ ad thr saved mlen spot reads hash ms mpast mtext mread ((q1 : Int32).toInt64) hq2) wd_1127 wd_1129 wd_58 wd_68 wd_1130 ok_X7_mixes 7 rfl 0 rfl (w' := (wX7 Δ ad thr saved mlen spot reads q2 ms mpast mtext mread)) su_16 fs_16 pu_16 rfl (rest := []) rfl (Nat.le_of_ble_eq_true rfl) ⟨Nat.le_of_ble_eq_true rfl, Nat.le_of_ble_eq_true rfl⟩ ⟨Nat.zero_le _, Nat.zero_le _⟩ (st1 := []) rfl dX7_mixesReader_106 (fun H locs Z => ?_)
          refine lv_iinc (v := (v2 + 1)) (lv' := [(2, .int (v2 + 1)), (0, .ref (ad 0)), (1, .int v1)]) X.x X.b dX7_mixesReader_109 hl (k := 2) rfl (congrArg _ ki_1) (Nat.le_of_ble_eq_true rfl) rfl (fun ls hl => ?_)
          refine lv_goto (tgt := 76) X.x X.b dX7_mixesReader_112 (by decide) ?_
          exact ih q2 ms v1 (v2 + 1) hf _ _ _ Z (lv_sub hl [1, 2, 0] rfl)
  have L31 : ∀ (k : Nat) (hash : Int64) (ms : Nat → Int32) (v1 : Int32) (v2 : Int32), fX7_mixesReader_31 k hash ms v1 v2 = some res → ∀ (H : Heap) (locs : List Loc) (ls : Array Slot), zW Δ A s.heap (wX7 Δ ad thr saved mlen spot reads hash ms mpast mtext mread) H locs → lv_has ls 3 [(0, .ref (ad 0)), (1, .int v1), (2, .int v2)] → W p l e { frames := 6, cells := 0, slots := 0, locals := 145 } s m args below meth c H locs 0 0 (zEnd Δ below args s 0 0 A none (wX7 Δ ad thr saved mlen spot reads res ms mpast mtext mread)) (F0 m 31 ls []) := by
    intro k
    induction k with
    | zero =>
      intro hash ms v1 v2 hf
      rw [fX7_mixesReader_31.eq_1] at hf
      cases hf
    | succ k ih =>
      intro hash ms v1 v2 hf H locs ls Z hl
      rw [fX7_mixesReader_31.eq_2] at hf
      refine lv_iload_n X.x X.b dX7_mixesReader_31 rfl (lv_at hl 2 rfl) ?_
      refine lv_bipush (v := 7) X.x X.b dX7_mixesReader_32 kb_7 ?_
      refine lv_icmp_ge (tgt := 54) X.x X.b dX7_mixesReader_34 (by decide) (fun b1 => ?_) (fun b1 => ?_)
      · have hf := zif_t b1 hf
        refine lv_aload_n X.x X.b dX7_mixesReader_54 rfl (lv_at hl 0 rfl) ?_
        refine lv_aload_n X.x X.b dX7_mixesReader_55 rfl (lv_at hl 0 rfl) ?_
        refine lv_iload_n X.x X.b dX7_mixesReader_56 rfl (lv_at hl 1 rfl) ?_
        obtain ⟨q1, hq1, hf⟩ := zb_ok hf
        refine z_callV X Z hl (mX7_easiestOf l Δ ad thr saved mlen spot reads hash ms mpast mtext mread v1 hq1) wd_1102 wd_1104 wd_55 wd_68 wd_1105 ok_X7_easiestOf 7 rfl 0 rfl (w' := (wX7 Δ ad thr saved mlen spot reads hash ms mpast mtext mread)) su_16 fs_16 pu_16 rfl (rest := [.ref (ad 0)]) rfl (Nat.le_of_ble_eq_true rfl) ⟨Nat.le_of_ble_eq_true rfl, Nat.le_of_ble_eq_true rfl⟩ ⟨Nat.zero_le _, Nat.zero_le _⟩ (st1 := [.int q1, .ref (ad 0)]) rfl dX7_mixesReader_57 (fun H locs Z => ?_)
        refine lv_i2l (v := (q1 : Int32).toInt64) X.x X.b dX7_mixesReader_60 rfl ?_
        obtain ⟨q2, hq2, hf⟩ := zb_ok hf
        refine z_callV X Z hl (mX7_mixes l Δ ad thr saved mlen spot reads hash ms mpast mtext mread ((q1 : Int32).toInt64) hq2) wd_1127 wd_1129 wd_58 wd_68 wd_1130 ok_X7_mixes 7 rfl 0 rfl (w' := (wX7 Δ ad thr saved mlen spot reads q2 ms mpast mtext mread)) su_16 fs_16 pu_16 rfl (rest := []) rfl (Nat.le_of_ble_eq_true rfl) ⟨Nat.le_of_ble_eq_true rfl, Nat.le_of_ble_eq_true rfl⟩ ⟨Nat.zero_le _, Nat.zero_le _⟩ (st1 := []) rfl dX7_mixesReader_61 (fun H locs Z => ?_)
        refine lv_aload_n X.x X.b dX7_mixesReader_64 rfl (lv_at hl 0 rfl) ?_
        refine lv_aload_n X.x X.b dX7_mixesReader_65 rfl (lv_at hl 0 rfl) ?_
        refine lv_iload_n X.x X.b dX7_mixesReader_66 rfl (lv_at hl 1 rfl) ?_
        obtain ⟨q3, hq3, hf⟩ := zb_ok hf
        refine z_callV X Z hl (mX7_enoughOf l Δ ad thr saved mlen spot reads q2 ms mpast mtext mread v1 hq3) wd_1110 wd_1112 wd_56 wd_68 wd_1113 ok_X7_enoughOf 7 rfl 0 rfl (w' := (wX7 Δ ad thr saved mlen spot reads q2 ms mpast mtext mread)) su_16 fs_16 pu_16 rfl (rest := [.ref (ad 0)]) rfl (Nat.le_of_ble_eq_true rfl) ⟨Nat.le_of_ble_eq_true rfl, Nat.le_of_ble_eq_true rfl⟩ ⟨Nat.zero_le _, Nat.zero_le _⟩ (st1 := [.int q3, .ref (ad 0)]) rfl dX7_mixesReader_67 (fun H locs Z => ?_)
        refine lv_i2l (v := (q3 : Int32).toInt64) X.x X.b dX7_mixesReader_70 rfl ?_
        obtain ⟨q4, hq4, hf⟩ := zb_ok hf
        refine z_callV X Z hl (mX7_mixes l Δ ad thr saved mlen spot reads q2 ms mpast mtext mread ((q3 : Int32).toInt64) hq4) wd_1127 wd_1129 wd_58 wd_68 wd_1130 ok_X7_mixes 7 rfl 0 rfl (w' := (wX7 Δ ad thr saved mlen spot reads q4 ms mpast mtext mread)) su_16 fs_16 pu_16 rfl (rest := []) rfl (Nat.le_of_ble_eq_true rfl) ⟨Nat.le_of_ble_eq_true rfl, Nat.le_of_ble_eq_true rfl⟩ ⟨Nat.zero_le _, Nat.zero_le _⟩ (st1 := []) rfl dX7_mixesReader_71 (fun H locs Z => ?_)
        refine lv_iconst (v := 0) X.x X.b dX7_mixesReader_74 ki_0 ?_
        refine lv_istore_n (lv' := [(2, .int 0), (0, .ref (ad 0)), (1, .int v1)]) X.x X.b dX7_mixesReader_75 rfl hl (Nat.le_of_ble_eq_true rfl) rfl (fun ls hl => ?_)
        exact L76 zfuel q4 ms v1 0 hf _ _ _ Z (lv_sub hl [1, 2, 0] rfl)
      · have hf := zif_f b1 hf
        refine lv_aload_n X.x X.b dX7_mixesReader_37 rfl (lv_at hl 0 rfl) ?_
        refine lv_aload_n X.x X.b dX7_mixesReader_38 rfl (lv_at hl 0 rfl) ?_
        refine lv_iload_n X.x X.b dX7_mixesReader_39 rfl (lv_at hl 1 rfl) ?_
        refine lv_iload_n X.x X.b dX7_mixesReader_40 rfl (lv_at hl 2 rfl) ?_
        obtain ⟨q5, hq5, hf⟩ := zb_ok hf
        refine z_callV X Z hl (mX7_readerOf l Δ ad thr saved mlen spot reads hash ms mpast mtext mread v1 v2 hq5) wd_1034 wd_1036 wd_43 wd_68 wd_1037 ok_X7_readerOf 7 rfl 0 rfl (w' := (wX7 Δ ad thr saved mlen spot reads hash ms mpast mtext mread)) su_16 fs_16 pu_16 rfl (rest := [.ref (ad 0)]) rfl (Nat.le_of_ble_eq_true rfl) ⟨Nat.le_of_ble_eq_true rfl, Nat.le_of_ble_eq_true rfl⟩ ⟨Nat.zero_le _, Nat.zero_le _⟩ (st1 := [.int q5, .ref (ad 0)]) rfl dX7_mixesReader_41 (fun H locs Z => ?_)
        refine lv_i2l (v := (q5 : Int32).toInt64) X.x X.b dX7_mixesReader_44 rfl ?_
        obtain ⟨q6, hq6, hf⟩ := zb_ok hf
        refine z_callV X Z hl (mX7_mixes l Δ ad thr saved mlen spot reads hash ms mpast mtext mread ((q5 : Int32).toInt64) hq6) wd_1127 wd_1129 wd_58 wd_68 wd_1130 ok_X7_mixes 7 rfl 0 rfl (w' := (wX7 Δ ad thr saved mlen spot reads q6 ms mpast mtext mread)) su_16 fs_16 pu_16 rfl (rest := []) rfl (Nat.le_of_ble_eq_true rfl) ⟨Nat.le_of_ble_eq_true rfl, Nat.le_of_ble_eq_true rfl⟩ ⟨Nat.zero_le _, Nat.zero_le _⟩ (st1 := []) rfl dX7_mixesReader_45 (fun H locs Z => ?_)
        refine lv_iinc (v := (v2 + 1)) (lv' := [(2, .int (v2 + 1)), (0, .ref (ad 0)), (1, .int v1)]) X.x X.b dX7_mixesReader_48 hl (k := 2) rfl (congrArg _ ki_1) (Nat.le_of_ble_eq_true rfl) rfl (fun ls hl => ?_)
        refine lv_goto (tgt := 31) X.x X.b dX7_mixesReader_51 (by decide) ?_
        exact ih q6 ms v1 (v2 + 1) hf _ _ _ Z (lv_sub hl [1, 2, 0] rfl)
  have L2 : ∀ (k : Nat) (hash : Int64) (ms : Nat → Int32) (v1 : Int32) (v2 : Int32), fX7_mixesReader_2 k hash ms v1 v2 = some res → ∀ (H : Heap) (locs : List Loc) (ls : Array Slot), zW Δ A s.heap (wX7 Δ ad thr saved mlen spot reads hash ms mpast mtext mread) H locs → lv_has ls 3 [(0, .ref (ad 0)), (1, .int v1), (2, .int v2)] → W p l e { frames := 6, cells := 0, slots := 0, locals := 145 } s m args below meth c H locs 0 0 (zEnd Δ below args s 0 0 A none (wX7 Δ ad thr saved mlen spot reads res ms mpast mtext mread)) (F0 m 2 ls []) := by
    intro k
    induction k with
    | zero =>
      intro hash ms v1 v2 hf
      rw [fX7_mixesReader_2.eq_1] at hf
      cases hf
    | succ k ih =>
      intro hash ms v1 v2 hf H locs ls Z hl
      rw [fX7_mixesReader_2.eq_2] at hf
      refine lv_iload_n X.x X.b dX7_mixesReader_2 rfl (lv_at hl 2 rfl) ?_
      refine lv_aload_n X.x X.b dX7_mixesReader_3 rfl (lv_at hl 0 rfl) ?_
      refine z_gf inG_X7 (ci := 7) rfl 1 (Nat.le_of_ble_eq_true rfl) rfl X Z wd_823 0 rfl (v := .ref (ad 1)) rfl dX7_mixesReader_4 ?_
      refine lv_iconst (v := 0) X.x X.b dX7_mixesReader_7 ki_0 ?_
      refine z_iald X Z 1 rfl (zvin (by decide)) dX7_mixesReader_8 ?_
      refine lv_icmp_ge (tgt := 29) X.x X.b dX7_mixesReader_9 (by decide) (fun b1 => ?_) (fun b1 => ?_)
      · have hf := zif_t b1 hf
        refine lv_iconst (v := 0) X.x X.b dX7_mixesReader_29 ki_0 ?_
        refine lv_istore_n (lv' := [(2, .int 0), (0, .ref (ad 0)), (1, .int v1)]) X.x X.b dX7_mixesReader_30 rfl hl (Nat.le_of_ble_eq_true rfl) rfl (fun ls hl => ?_)
        exact L31 zfuel hash ms v1 0 hf _ _ _ Z (lv_sub hl [1, 2, 0] rfl)
      · have hf := zif_f b1 hf
        refine lv_aload_n X.x X.b dX7_mixesReader_12 rfl (lv_at hl 0 rfl) ?_
        refine lv_aload_n X.x X.b dX7_mixesReader_13 rfl (lv_at hl 0 rfl) ?_
        refine lv_iload_n X.x X.b dX7_mixesReader_14 rfl (lv_at hl 1 rfl) ?_
        refine lv_iload_n X.x X.b dX7_mixesReader_15 rfl (lv_at hl 2 rfl) ?_
        obtain ⟨q1, hq1, hf⟩ := zb_ok hf
        refine z_callV X Z hl (mX7_known l Δ ad thr saved mlen spot reads hash ms mpast mtext mread v1 v2 hq1) wd_908 wd_910 wd_25 wd_68 wd_911 ok_X7_known 7 rfl 0 rfl (w' := (wX7 Δ ad thr saved mlen spot reads hash ms mpast mtext mread)) su_16 fs_16 pu_16 rfl (rest := [.ref (ad 0)]) rfl (Nat.le_of_ble_eq_true rfl) ⟨Nat.le_of_ble_eq_true rfl, Nat.le_of_ble_eq_true rfl⟩ ⟨Nat.zero_le _, Nat.zero_le _⟩ (st1 := [.int q1, .ref (ad 0)]) rfl dX7_mixesReader_16 (fun H locs Z => ?_)
        refine lv_i2l (v := (q1 : Int32).toInt64) X.x X.b dX7_mixesReader_19 rfl ?_
        obtain ⟨q2, hq2, hf⟩ := zb_ok hf
        refine z_callV X Z hl (mX7_mixes l Δ ad thr saved mlen spot reads hash ms mpast mtext mread ((q1 : Int32).toInt64) hq2) wd_1127 wd_1129 wd_58 wd_68 wd_1130 ok_X7_mixes 7 rfl 0 rfl (w' := (wX7 Δ ad thr saved mlen spot reads q2 ms mpast mtext mread)) su_16 fs_16 pu_16 rfl (rest := []) rfl (Nat.le_of_ble_eq_true rfl) ⟨Nat.le_of_ble_eq_true rfl, Nat.le_of_ble_eq_true rfl⟩ ⟨Nat.zero_le _, Nat.zero_le _⟩ (st1 := []) rfl dX7_mixesReader_20 (fun H locs Z => ?_)
        refine lv_iinc (v := (v2 + 1)) (lv' := [(2, .int (v2 + 1)), (0, .ref (ad 0)), (1, .int v1)]) X.x X.b dX7_mixesReader_23 hl (k := 2) rfl (congrArg _ ki_1) (Nat.le_of_ble_eq_true rfl) rfl (fun ls hl => ?_)
        refine lv_goto (tgt := 2) X.x X.b dX7_mixesReader_26 (by decide) ?_
        exact ih q2 ms v1 (v2 + 1) hf _ _ _ Z (lv_sub hl [1, 2, 0] rfl)
  rw [fX7_mixesReader.eq_1] at hf
  refine lv_iconst (v := 0) X.x X.b dX7_mixesReader_0 ki_0 ?_
  refine lv_istore_n (lv' := [(2, .int 0), (0, .ref (ad 0)), (1, .int x1)]) X.x X.b dX7_mixesReader_1 rfl hl (Nat.le_of_ble_eq_true rfl) rfl (fun ls hl => ?_)
  exact L2 zfuel hash ms x1 0 hf _ _ _ Z (lv_sub hl [1, 2, 0] rfl)
set_option maxRecDepth 100000 in
set_option maxHeartbeats 4000000 in
theorem mJxe99ae_isNaN_b9ae7 (l : Launch) (Δ : zE)  (x0 : UInt64) {res : Int32} (hf : fJxe99ae_isNaN_b9ae7 x0 = some res) : zMet l Δ yJxe99ae_isNaN_b9ae7 cJxe99ae_isNaN_b9ae7 2 (some .boolean) 0 0 [.double x0] [] [] (some (.int res)) := by
  refine z_start (by decide +kernel) (Nat.le_of_ble_eq_true rfl) ?_
  intro p e s m args below meth c A ls X Z hl
  have hl : lv_has ls 2 [(0, .double x0)] := hl
  rw [fJxe99ae_isNaN_b9ae7.eq_1] at hf
  refine lv_dload_n X.x X.b dJxe99ae_isNaN_b9ae7_0 rfl (lv_at hl 0 rfl) ?_
  refine lv_dload_n X.x X.b dJxe99ae_isNaN_b9ae7_1 rfl (lv_at hl 0 rfl) ?_
  refine lv_dcmp X.x X.b dJxe99ae_isNaN_b9ae7_2 ?_
  refine lv_if_eq (tgt := 10) X.x X.b dJxe99ae_isNaN_b9ae7_3 (by decide) (fun b1 => ?_) (fun b1 => ?_)
  · have hf := zif_t b1 hf
    refine lv_iconst (v := 0) X.x X.b dJxe99ae_isNaN_b9ae7_10 ki_0 ?_
    cases hf
    exact z_zret X Z (Or.inl rfl) dJxe99ae_isNaN_b9ae7_11
  · have hf := zif_f b1 hf
    refine lv_iconst (v := 1) X.x X.b dJxe99ae_isNaN_b9ae7_6 ki_1 ?_
    refine lv_goto (tgt := 11) X.x X.b dJxe99ae_isNaN_b9ae7_7 (by decide) ?_
    cases hf
    exact z_zret X Z (Or.inr rfl) dJxe99ae_isNaN_b9ae7_11
set_option maxRecDepth 100000 in
set_option maxHeartbeats 4000000 in
theorem mJxe99ae_doubleToLongBits_ccdee (l : Launch) (Δ : zE)  (x0 : UInt64) {res : Int64} (hf : fJxe99ae_doubleToLongBits_ccdee x0 = some res) : zMet l Δ yJxe99ae_doubleToLongBits_ccdee cJxe99ae_doubleToLongBits_ccdee 2 (some .long) 1 40 [.double x0] [] [] (some (.long res)) := by
  refine z_start (by decide +kernel) (Nat.le_of_ble_eq_true rfl) ?_
  intro p e s m args below meth c A ls X Z hl
  have hl : lv_has ls 2 [(0, .double x0)] := hl
  rw [fJxe99ae_doubleToLongBits_ccdee.eq_1] at hf
  refine lv_dload_n X.x X.b dJxe99ae_doubleToLongBits_ccdee_0 rfl (lv_at hl 0 rfl) ?_
  obtain ⟨q1, hq1, hf⟩ := zb_ok hf
  refine z_callS X Z hl (mJxe99ae_isNaN_b9ae7 l Δ  x0 hq1) wd_1139 wd_1140 wd_78 wd_1141 ok_Jxe99ae_isNaN_b9ae7 (w' := []) zSub_nil rfl zput_nil rfl (rest := []) rfl (Nat.le_of_ble_eq_true rfl) ⟨Nat.le_of_ble_eq_true rfl, Nat.le_of_ble_eq_true rfl⟩ ⟨Nat.zero_le _, Nat.zero_le _⟩ (st1 := [.int q1]) rfl dJxe99ae_doubleToLongBits_ccdee_1 (fun H locs Z => ?_)
  refine lv_if_ne (tgt := 12) X.x X.b dJxe99ae_doubleToLongBits_ccdee_4 (by decide) (fun b1 => ?_) (fun b1 => ?_)
  · have hf := zif_f b1 hf
    refine lv_ldc2 (v := 9221120237041090560) X.x X.b X.own (X.ts _ wd_1145) dJxe99ae_doubleToLongBits_ccdee_12 ?_
    cases hf
    exact z_lret X Z dJxe99ae_doubleToLongBits_ccdee_15
  · have hf := zif_t b1 hf
    refine lv_dload_n X.x X.b dJxe99ae_doubleToLongBits_ccdee_7 rfl (lv_at hl 0 rfl) ?_
    refine vn_d2l X.x X.b (X.1.2.2.1.trans hl.1.symm) X.own (X.ts _ wd_1142) (X.ts _ wd_1144) (X.ts _ wd_1143) (X.ts _ wd_78) (Nat.le_of_ble_eq_true rfl) (Nat.le_of_ble_eq_true rfl) dJxe99ae_doubleToLongBits_ccdee_8 ?_
    cases hf
    exact z_lret X Z dJxe99ae_doubleToLongBits_ccdee_11
set_option maxRecDepth 100000 in
set_option maxHeartbeats 4000000 in
theorem mX7_digest (l : Launch) (Δ : zE) (ad : Nat → Nat) (thr : Int32) (saved : Int32) (mlen : Int32) (spot : Int32) (reads : Int32) (hash : Int64) (ms : Nat → Int32) (mpast : Nat → Int32) (mtext : Nat → Int32) (mread : Nat → Int32)  {res : Int64 × Int32 × Int64} (hf : fX7_digest thr saved mlen hash ms mtext = some res) : zMet l Δ yX7_digest cX7_digest 2 (some .long) 7 167 [.ref (ad 0)] (wX7 Δ ad thr saved mlen spot reads hash ms mpast mtext mread) (wX7 Δ ad res.2.1 saved mlen spot reads res.2.2 ms mpast mtext mread) (some (.long res.1)) := by
  refine z_start (by decide +kernel) (Nat.le_of_ble_eq_true rfl) ?_
  intro p e s m args below meth c A ls X Z hl
  have hl : lv_has ls 2 [(0, .ref (ad 0))] := hl
  have L166 : ∀ (k : Nat) (thr : Int32) (saved : Int32) (mlen : Int32) (hash : Int64) (ms : Nat → Int32) (mtext : Nat → Int32) (v1 : Int32), fX7_digest_166 k thr saved mlen hash ms mtext v1 = some res → ∀ (H : Heap) (locs : List Loc) (ls : Array Slot), zW Δ A s.heap (wX7 Δ ad thr saved mlen spot reads hash ms mpast mtext mread) H locs → lv_has ls 2 [(0, .ref (ad 0)), (1, .int v1)] → W p l e { frames := 7, cells := 0, slots := 0, locals := 167 } s m args below meth c H locs 0 0 (zEnd Δ below args s 0 0 A (some (.long res.1)) (wX7 Δ ad res.2.1 saved mlen spot reads res.2.2 ms mpast mtext mread)) (F0 m 166 ls []) := by
    intro k
    induction k with
    | zero =>
      intro thr saved mlen hash ms mtext v1 hf
      rw [fX7_digest_166.eq_1] at hf
      cases hf
    | succ k ih =>
      intro thr saved mlen hash ms mtext v1 hf H locs ls Z hl
      rw [fX7_digest_166.eq_2] at hf
      refine lv_iload_n X.x X.b dX7_digest_166 rfl (lv_at hl 1 rfl) ?_
      refine lv_aload_n X.x X.b dX7_digest_167 rfl (lv_at hl 0 rfl) ?_
      refine z_gf inG_X7 (ci := 7) rfl 5 (Nat.le_of_ble_eq_true rfl) rfl X Z wd_827 0 rfl (v := .int mlen) rfl dX7_digest_168 ?_
      refine lv_icmp_ge (tgt := 191) X.x X.b dX7_digest_171 (by decide) (fun b1 => ?_) (fun b1 => ?_)
      · have hf := zif_t b1 hf
        refine lv_aload_n X.x X.b dX7_digest_191 rfl (lv_at hl 0 rfl) ?_
        refine z_gf inG_X7 (ci := 7) rfl 9 (Nat.le_of_ble_eq_true rfl) rfl X Z wd_831 0 rfl (v := .long hash) rfl dX7_digest_192 ?_
        cases hf
        exact z_lret X Z dX7_digest_195
      · have hf := zif_f b1 hf
        refine lv_aload_n X.x X.b dX7_digest_174 rfl (lv_at hl 0 rfl) ?_
        refine lv_aload_n X.x X.b dX7_digest_175 rfl (lv_at hl 0 rfl) ?_
        refine z_gf inG_X7 (ci := 7) rfl 4 (Nat.le_of_ble_eq_true rfl) rfl X Z wd_826 0 rfl (v := .ref (ad 3)) rfl dX7_digest_176 ?_
        refine lv_iload_n X.x X.b dX7_digest_179 rfl (lv_at hl 1 rfl) ?_
        obtain ⟨b2, hf⟩ := zg_in hf
        refine z_cald X Z 3 rfl b2 dX7_digest_180 ?_
        refine lv_i2l (v := ((mtext v1.toNatClampNeg) : Int32).toInt64) X.x X.b dX7_digest_181 rfl ?_
        obtain ⟨q1, hq1, hf⟩ := zb_ok hf
        refine z_callV X Z hl (mX7_mixes l Δ ad thr saved mlen spot reads hash ms mpast mtext mread (((mtext v1.toNatClampNeg) : Int32).toInt64) hq1) wd_1127 wd_1129 wd_58 wd_68 wd_1130 ok_X7_mixes 7 rfl 0 rfl (w' := (wX7 Δ ad thr saved mlen spot reads q1 ms mpast mtext mread)) su_16 fs_16 pu_16 rfl (rest := []) rfl (Nat.le_of_ble_eq_true rfl) ⟨Nat.le_of_ble_eq_true rfl, Nat.le_of_ble_eq_true rfl⟩ ⟨Nat.zero_le _, Nat.zero_le _⟩ (st1 := []) rfl dX7_digest_182 (fun H locs Z => ?_)
        refine lv_iinc (v := (v1 + 1)) (lv' := [(1, .int (v1 + 1)), (0, .ref (ad 0))]) X.x X.b dX7_digest_185 hl (k := 1) rfl (congrArg _ ki_1) (Nat.le_of_ble_eq_true rfl) rfl (fun ls hl => ?_)
        refine lv_goto (tgt := 166) X.x X.b dX7_digest_188 (by decide) ?_
        exact ih thr saved mlen q1 ms mtext (v1 + 1) hf _ _ _ Z (lv_sub hl [1, 0] rfl)
  have L117 : ∀ (k : Nat) (thr : Int32) (saved : Int32) (mlen : Int32) (hash : Int64) (ms : Nat → Int32) (mtext : Nat → Int32) (v1 : Int32), fX7_digest_117 k thr saved mlen hash ms mtext v1 = some res → ∀ (H : Heap) (locs : List Loc) (ls : Array Slot), zW Δ A s.heap (wX7 Δ ad thr saved mlen spot reads hash ms mpast mtext mread) H locs → lv_has ls 2 [(0, .ref (ad 0)), (1, .int v1)] → W p l e { frames := 7, cells := 0, slots := 0, locals := 167 } s m args below meth c H locs 0 0 (zEnd Δ below args s 0 0 A (some (.long res.1)) (wX7 Δ ad res.2.1 saved mlen spot reads res.2.2 ms mpast mtext mread)) (F0 m 117 ls []) := by
    intro k
    induction k with
    | zero =>
      intro thr saved mlen hash ms mtext v1 hf
      rw [fX7_digest_117.eq_1] at hf
      cases hf
    | succ k ih =>
      intro thr saved mlen hash ms mtext v1 hf H locs ls Z hl
      rw [fX7_digest_117.eq_2] at hf
      refine lv_iload_n X.x X.b dX7_digest_117 rfl (lv_at hl 1 rfl) ?_
      refine lv_bipush (v := 24) X.x X.b dX7_digest_118 kb_24 ?_
      refine lv_icmp_ge (tgt := 144) X.x X.b dX7_digest_120 (by decide) (fun b1 => ?_) (fun b1 => ?_)
      · have hf := zif_t b1 hf
        refine lv_aload_n X.x X.b dX7_digest_144 rfl (lv_at hl 0 rfl) ?_
        refine lv_aload_n X.x X.b dX7_digest_145 rfl (lv_at hl 0 rfl) ?_
        obtain ⟨q1, hq1, hf⟩ := zb_ok hf
        refine z_callV X Z hl (mX7_share l Δ ad thr saved mlen spot reads hash ms mpast mtext mread hq1) wd_1118 wd_1120 wd_57 wd_68 wd_1121 ok_X7_share 7 rfl 0 rfl (w' := (wX7 Δ ad thr saved mlen spot reads hash ms mpast mtext mread)) su_16 fs_16 pu_16 rfl (rest := [.ref (ad 0)]) rfl (Nat.le_of_ble_eq_true rfl) ⟨Nat.le_of_ble_eq_true rfl, Nat.le_of_ble_eq_true rfl⟩ ⟨Nat.zero_le _, Nat.zero_le _⟩ (st1 := [.double q1, .ref (ad 0)]) rfl dX7_digest_146 (fun H locs Z => ?_)
        obtain ⟨q2, hq2, hf⟩ := zb_ok hf
        refine z_callS X Z hl (mJxe99ae_doubleToLongBits_ccdee l Δ  q1 hq2) wd_1136 wd_1137 wd_78 wd_1138 ok_Jxe99ae_doubleToLongBits_ccdee (w' := (wX7 Δ ad thr saved mlen spot reads hash ms mpast mtext mread)) zSub_nil rfl zput_nil rfl (rest := [.ref (ad 0)]) rfl (Nat.le_of_ble_eq_true rfl) ⟨Nat.le_of_ble_eq_true rfl, Nat.le_of_ble_eq_true rfl⟩ ⟨Nat.zero_le _, Nat.zero_le _⟩ (st1 := [.long q2, .ref (ad 0)]) rfl dX7_digest_149 (fun H locs Z => ?_)
        obtain ⟨q3, hq3, hf⟩ := zb_ok hf
        refine z_callV X Z hl (mX7_mixes l Δ ad thr saved mlen spot reads hash ms mpast mtext mread q2 hq3) wd_1127 wd_1129 wd_58 wd_68 wd_1130 ok_X7_mixes 7 rfl 0 rfl (w' := (wX7 Δ ad thr saved mlen spot reads q3 ms mpast mtext mread)) su_16 fs_16 pu_16 rfl (rest := []) rfl (Nat.le_of_ble_eq_true rfl) ⟨Nat.le_of_ble_eq_true rfl, Nat.le_of_ble_eq_true rfl⟩ ⟨Nat.zero_le _, Nat.zero_le _⟩ (st1 := []) rfl dX7_digest_152 (fun H locs Z => ?_)
        refine lv_aload_n X.x X.b dX7_digest_155 rfl (lv_at hl 0 rfl) ?_
        refine lv_aload_n X.x X.b dX7_digest_156 rfl (lv_at hl 0 rfl) ?_
        refine z_gf inG_X7 (ci := 7) rfl 5 (Nat.le_of_ble_eq_true rfl) rfl X Z wd_827 0 rfl (v := .int mlen) rfl dX7_digest_157 ?_
        refine lv_i2l (v := (mlen : Int32).toInt64) X.x X.b dX7_digest_160 rfl ?_
        obtain ⟨q4, hq4, hf⟩ := zb_ok hf
        refine z_callV X Z hl (mX7_mixes l Δ ad thr saved mlen spot reads q3 ms mpast mtext mread ((mlen : Int32).toInt64) hq4) wd_1127 wd_1129 wd_58 wd_68 wd_1130 ok_X7_mixes 7 rfl 0 rfl (w' := (wX7 Δ ad thr saved mlen spot reads q4 ms mpast mtext mread)) su_16 fs_16 pu_16 rfl (rest := []) rfl (Nat.le_of_ble_eq_true rfl) ⟨Nat.le_of_ble_eq_true rfl, Nat.le_of_ble_eq_true rfl⟩ ⟨Nat.zero_le _, Nat.zero_le _⟩ (st1 := []) rfl dX7_digest_161 (fun H locs Z => ?_)
        refine lv_iconst (v := 0) X.x X.b dX7_digest_164 ki_0 ?_
        refine lv_istore_n (lv' := [(1, .int 0), (0, .ref (ad 0))]) X.x X.b dX7_digest_165 rfl hl (Nat.le_of_ble_eq_true rfl) rfl (fun ls hl => ?_)
        exact L166 zfuel thr saved mlen q4 ms mtext 0 hf _ _ _ Z (lv_sub hl [1, 0] rfl)
      · have hf := zif_f b1 hf
        refine lv_aload_n X.x X.b dX7_digest_123 rfl (lv_at hl 0 rfl) ?_
        refine lv_aload_n X.x X.b dX7_digest_124 rfl (lv_at hl 0 rfl) ?_
        refine lv_iload_n X.x X.b dX7_digest_125 rfl (lv_at hl 1 rfl) ?_
        refine lv_iconst (v := 4) X.x X.b dX7_digest_126 ki_4 ?_
        refine lv_idiv X.x X.b dX7_digest_127 (by decide) ?_
        refine lv_iload_n X.x X.b dX7_digest_128 rfl (lv_at hl 1 rfl) ?_
        refine lv_iconst (v := 4) X.x X.b dX7_digest_129 ki_4 ?_
        refine lv_irem X.x X.b dX7_digest_130 (by decide) ?_
        obtain ⟨q5, hq5, hf⟩ := zb_ok hf
        refine z_callV X Z hl (mX7_plotOf l Δ ad thr saved mlen spot reads hash ms mpast mtext mread (v1 / 4) (v1 - v1 / 4 * 4) hq5) wd_1050 wd_1052 wd_46 wd_68 wd_1053 ok_X7_plotOf 7 rfl 0 rfl (w' := (wX7 Δ ad thr saved mlen spot reads hash ms mpast mtext mread)) su_16 fs_16 pu_16 rfl (rest := [.ref (ad 0)]) rfl (Nat.le_of_ble_eq_true rfl) ⟨Nat.le_of_ble_eq_true rfl, Nat.le_of_ble_eq_true rfl⟩ ⟨Nat.zero_le _, Nat.zero_le _⟩ (st1 := [.int q5, .ref (ad 0)]) rfl dX7_digest_131 (fun H locs Z => ?_)
        refine lv_i2l (v := (q5 : Int32).toInt64) X.x X.b dX7_digest_134 rfl ?_
        obtain ⟨q6, hq6, hf⟩ := zb_ok hf
        refine z_callV X Z hl (mX7_mixes l Δ ad thr saved mlen spot reads hash ms mpast mtext mread ((q5 : Int32).toInt64) hq6) wd_1127 wd_1129 wd_58 wd_68 wd_1130 ok_X7_mixes 7 rfl 0 rfl (w' := (wX7 Δ ad thr saved mlen spot reads q6 ms mpast mtext mread)) su_16 fs_16 pu_16 rfl (rest := []) rfl (Nat.le_of_ble_eq_true rfl) ⟨Nat.le_of_ble_eq_true rfl, Nat.le_of_ble_eq_true rfl⟩ ⟨Nat.zero_le _, Nat.zero_le _⟩ (st1 := []) rfl dX7_digest_135 (fun H locs Z => ?_)
        refine lv_iinc (v := (v1 + 1)) (lv' := [(1, .int (v1 + 1)), (0, .ref (ad 0))]) X.x X.b dX7_digest_138 hl (k := 1) rfl (congrArg _ ki_1) (Nat.le_of_ble_eq_true rfl) rfl (fun ls hl => ?_)
        refine lv_goto (tgt := 117) X.x X.b dX7_digest_141 (by decide) ?_
        exact ih thr saved mlen q6 ms mtext (v1 + 1) hf _ _ _ Z (lv_sub hl [1, 0] rfl)
  have L98 : ∀ (k : Nat) (thr : Int32) (saved : Int32) (mlen : Int32) (hash : Int64) (ms : Nat → Int32) (mtext : Nat → Int32) (v1 : Int32), fX7_digest_98 k thr saved mlen hash ms mtext v1 = some res → ∀ (H : Heap) (locs : List Loc) (ls : Array Slot), zW Δ A s.heap (wX7 Δ ad thr saved mlen spot reads hash ms mpast mtext mread) H locs → lv_has ls 2 [(0, .ref (ad 0)), (1, .int v1)] → W p l e { frames := 7, cells := 0, slots := 0, locals := 167 } s m args below meth c H locs 0 0 (zEnd Δ below args s 0 0 A (some (.long res.1)) (wX7 Δ ad res.2.1 saved mlen spot reads res.2.2 ms mpast mtext mread)) (F0 m 98 ls []) := by
    intro k
    induction k with
    | zero =>
      intro thr saved mlen hash ms mtext v1 hf
      rw [fX7_digest_98.eq_1] at hf
      cases hf
    | succ k ih =>
      intro thr saved mlen hash ms mtext v1 hf H locs ls Z hl
      rw [fX7_digest_98.eq_2] at hf
      refine lv_iload_n X.x X.b dX7_digest_98 rfl (lv_at hl 1 rfl) ?_
      refine lv_bipush (v := 6) X.x X.b dX7_digest_99 kb_6 ?_
      refine lv_icmp_ge (tgt := 115) X.x X.b dX7_digest_101 (by decide) (fun b1 => ?_) (fun b1 => ?_)
      · have hf := zif_t b1 hf
        refine lv_iconst (v := 0) X.x X.b dX7_digest_115 ki_0 ?_
        refine lv_istore_n (lv' := [(1, .int 0), (0, .ref (ad 0))]) X.x X.b dX7_digest_116 rfl hl (Nat.le_of_ble_eq_true rfl) rfl (fun ls hl => ?_)
        exact L117 zfuel thr saved mlen hash ms mtext 0 hf _ _ _ Z (lv_sub hl [1, 0] rfl)
      · have hf := zif_f b1 hf
        refine lv_aload_n X.x X.b dX7_digest_104 rfl (lv_at hl 0 rfl) ?_
        refine lv_iload_n X.x X.b dX7_digest_105 rfl (lv_at hl 1 rfl) ?_
        obtain ⟨q1, hq1, hf⟩ := zb_ok hf
        refine z_callV X Z hl (mX7_mixesReader l Δ ad thr saved mlen spot reads hash ms mpast mtext mread v1 hq1) wd_1132 wd_1134 wd_59 wd_68 wd_1135 ok_X7_mixesReader 7 rfl 0 rfl (w' := (wX7 Δ ad thr saved mlen spot reads q1 ms mpast mtext mread)) su_16 fs_16 pu_16 rfl (rest := []) rfl (Nat.le_of_ble_eq_true rfl) ⟨Nat.le_of_ble_eq_true rfl, Nat.le_of_ble_eq_true rfl⟩ ⟨Nat.zero_le _, Nat.zero_le _⟩ (st1 := []) rfl dX7_digest_106 (fun H locs Z => ?_)
        refine lv_iinc (v := (v1 + 1)) (lv' := [(1, .int (v1 + 1)), (0, .ref (ad 0))]) X.x X.b dX7_digest_109 hl (k := 1) rfl (congrArg _ ki_1) (Nat.le_of_ble_eq_true rfl) rfl (fun ls hl => ?_)
        refine lv_goto (tgt := 98) X.x X.b dX7_digest_112 (by decide) ?_
        exact ih thr saved mlen q1 ms mtext (v1 + 1) hf _ _ _ Z (lv_sub hl [1, 0] rfl)
  have L60 : ∀ (k : Nat) (thr : Int32) (saved : Int32) (mlen : Int32) (hash : Int64) (ms : Nat → Int32) (mtext : Nat → Int32) (v1 : Int32), fX7_digest_60 k thr saved mlen hash ms mtext v1 = some res → ∀ (H : Heap) (locs : List Loc) (ls : Array Slot), zW Δ A s.heap (wX7 Δ ad thr saved mlen spot reads hash ms mpast mtext mread) H locs → lv_has ls 2 [(0, .ref (ad 0)), (1, .int v1)] → W p l e { frames := 7, cells := 0, slots := 0, locals := 167 } s m args below meth c H locs 0 0 (zEnd Δ below args s 0 0 A (some (.long res.1)) (wX7 Δ ad res.2.1 saved mlen spot reads res.2.2 ms mpast mtext mread)) (F0 m 60 ls []) := by
    intro k
    induction k with
    | zero =>
      intro thr saved mlen hash ms mtext v1 hf
      rw [fX7_digest_60.eq_1] at hf
      cases hf
    | succ k ih =>
      intro thr saved mlen hash ms mtext v1 hf H locs ls Z hl
      rw [fX7_digest_60.eq_2] at hf
      refine lv_iload_n X.x X.b dX7_digest_60 rfl (lv_at hl 1 rfl) ?_
      refine lv_bipush (v := 7) X.x X.b dX7_digest_61 kb_7 ?_
      refine lv_aload_n X.x X.b dX7_digest_63 rfl (lv_at hl 0 rfl) ?_
      refine z_gf inG_X7 (ci := 7) rfl 1 (Nat.le_of_ble_eq_true rfl) rfl X Z wd_823 0 rfl (v := .ref (ad 1)) rfl dX7_digest_64 ?_
      refine lv_iconst (v := 0) X.x X.b dX7_digest_67 ki_0 ?_
      refine z_iald X Z 1 rfl (zvin (by decide)) dX7_digest_68 ?_
      refine lv_imul X.x X.b dX7_digest_69 ?_
      refine lv_icmp_ge (tgt := 96) X.x X.b dX7_digest_70 (by decide) (fun b1 => ?_) (fun b1 => ?_)
      · have hf := zif_t b1 hf
        refine lv_iconst (v := 0) X.x X.b dX7_digest_96 ki_0 ?_
        refine lv_istore_n (lv' := [(1, .int 0), (0, .ref (ad 0))]) X.x X.b dX7_digest_97 rfl hl (Nat.le_of_ble_eq_true rfl) rfl (fun ls hl => ?_)
        exact L98 zfuel thr saved mlen hash ms mtext 0 hf _ _ _ Z (lv_sub hl [1, 0] rfl)
      · have hf := zif_f b1 hf
        refine lv_aload_n X.x X.b dX7_digest_73 rfl (lv_at hl 0 rfl) ?_
        refine lv_aload_n X.x X.b dX7_digest_74 rfl (lv_at hl 0 rfl) ?_
        refine lv_iload_n X.x X.b dX7_digest_75 rfl (lv_at hl 1 rfl) ?_
        refine lv_bipush (v := 7) X.x X.b dX7_digest_76 kb_7 ?_
        refine lv_idiv X.x X.b dX7_digest_78 (by decide) ?_
        refine lv_iload_n X.x X.b dX7_digest_79 rfl (lv_at hl 1 rfl) ?_
        refine lv_bipush (v := 7) X.x X.b dX7_digest_80 kb_7 ?_
        refine lv_irem X.x X.b dX7_digest_82 (by decide) ?_
        obtain ⟨q1, hq1, hf⟩ := zb_ok hf
        refine z_callV X Z hl (mX7_partOf l Δ ad thr saved mlen spot reads hash ms mpast mtext mread (v1 / 7) (v1 - v1 / 7 * 7) hq1) wd_1018 wd_1020 wd_41 wd_68 wd_1021 ok_X7_partOf 7 rfl 0 rfl (w' := (wX7 Δ ad thr saved mlen spot reads hash ms mpast mtext mread)) su_16 fs_16 pu_16 rfl (rest := [.ref (ad 0)]) rfl (Nat.le_of_ble_eq_true rfl) ⟨Nat.le_of_ble_eq_true rfl, Nat.le_of_ble_eq_true rfl⟩ ⟨Nat.zero_le _, Nat.zero_le _⟩ (st1 := [.int q1, .ref (ad 0)]) rfl dX7_digest_83 (fun H locs Z => ?_)
        refine lv_i2l (v := (q1 : Int32).toInt64) X.x X.b dX7_digest_86 rfl ?_
        obtain ⟨q2, hq2, hf⟩ := zb_ok hf
        refine z_callV X Z hl (mX7_mixes l Δ ad thr saved mlen spot reads hash ms mpast mtext mread ((q1 : Int32).toInt64) hq2) wd_1127 wd_1129 wd_58 wd_68 wd_1130 ok_X7_mixes 7 rfl 0 rfl (w' := (wX7 Δ ad thr saved mlen spot reads q2 ms mpast mtext mread)) su_16 fs_16 pu_16 rfl (rest := []) rfl (Nat.le_of_ble_eq_true rfl) ⟨Nat.le_of_ble_eq_true rfl, Nat.le_of_ble_eq_true rfl⟩ ⟨Nat.zero_le _, Nat.zero_le _⟩ (st1 := []) rfl dX7_digest_87 (fun H locs Z => ?_)
        refine lv_iinc (v := (v1 + 1)) (lv' := [(1, .int (v1 + 1)), (0, .ref (ad 0))]) X.x X.b dX7_digest_90 hl (k := 1) rfl (congrArg _ ki_1) (Nat.le_of_ble_eq_true rfl) rfl (fun ls hl => ?_)
        refine lv_goto (tgt := 60) X.x X.b dX7_digest_93 (by decide) ?_
        exact ih thr saved mlen q2 ms mtext (v1 + 1) hf _ _ _ Z (lv_sub hl [1, 0] rfl)
  have L14 : ∀ (k : Nat) (thr : Int32) (saved : Int32) (mlen : Int32) (hash : Int64) (ms : Nat → Int32) (mtext : Nat → Int32) (v1 : Int32), fX7_digest_14 k thr saved mlen hash ms mtext v1 = some res → ∀ (H : Heap) (locs : List Loc) (ls : Array Slot), zW Δ A s.heap (wX7 Δ ad thr saved mlen spot reads hash ms mpast mtext mread) H locs → lv_has ls 2 [(0, .ref (ad 0)), (1, .int v1)] → W p l e { frames := 7, cells := 0, slots := 0, locals := 167 } s m args below meth c H locs 0 0 (zEnd Δ below args s 0 0 A (some (.long res.1)) (wX7 Δ ad res.2.1 saved mlen spot reads res.2.2 ms mpast mtext mread)) (F0 m 14 ls []) := by
    intro k
    induction k with
    | zero =>
      intro thr saved mlen hash ms mtext v1 hf
      rw [fX7_digest_14.eq_1] at hf
      cases hf
    | succ k ih =>
      intro thr saved mlen hash ms mtext v1 hf H locs ls Z hl
      rw [fX7_digest_14.eq_2] at hf
      refine lv_iload_n X.x X.b dX7_digest_14 rfl (lv_at hl 1 rfl) ?_
      refine lv_bipush (v := 7) X.x X.b dX7_digest_15 kb_7 ?_
      refine lv_icmp_ge (tgt := 36) X.x X.b dX7_digest_17 (by decide) (fun b1 => ?_) (fun b1 => ?_)
      · have hf := zif_t b1 hf
        refine lv_aload_n X.x X.b dX7_digest_36 rfl (lv_at hl 0 rfl) ?_
        refine lv_aload_n X.x X.b dX7_digest_37 rfl (lv_at hl 0 rfl) ?_
        refine z_gf inG_X7 (ci := 7) rfl 1 (Nat.le_of_ble_eq_true rfl) rfl X Z wd_823 0 rfl (v := .ref (ad 1)) rfl dX7_digest_38 ?_
        refine lv_iconst (v := 1) X.x X.b dX7_digest_41 ki_1 ?_
        refine z_iald X Z 1 rfl (zvin (by decide)) dX7_digest_42 ?_
        refine lv_i2l (v := ((ms (1 : Int32).toNatClampNeg) : Int32).toInt64) X.x X.b dX7_digest_43 rfl ?_
        obtain ⟨q1, hq1, hf⟩ := zb_ok hf
        refine z_callV X Z hl (mX7_mixes l Δ ad thr saved mlen spot reads hash ms mpast mtext mread (((ms (1 : Int32).toNatClampNeg) : Int32).toInt64) hq1) wd_1127 wd_1129 wd_58 wd_68 wd_1130 ok_X7_mixes 7 rfl 0 rfl (w' := (wX7 Δ ad thr saved mlen spot reads q1 ms mpast mtext mread)) su_16 fs_16 pu_16 rfl (rest := []) rfl (Nat.le_of_ble_eq_true rfl) ⟨Nat.le_of_ble_eq_true rfl, Nat.le_of_ble_eq_true rfl⟩ ⟨Nat.zero_le _, Nat.zero_le _⟩ (st1 := []) rfl dX7_digest_44 (fun H locs Z => ?_)
        refine lv_aload_n X.x X.b dX7_digest_47 rfl (lv_at hl 0 rfl) ?_
        refine lv_aload_n X.x X.b dX7_digest_48 rfl (lv_at hl 0 rfl) ?_
        refine z_gf inG_X7 (ci := 7) rfl 1 (Nat.le_of_ble_eq_true rfl) rfl X Z wd_823 0 rfl (v := .ref (ad 1)) rfl dX7_digest_49 ?_
        refine lv_iconst (v := 2) X.x X.b dX7_digest_52 ki_2 ?_
        refine z_iald X Z 1 rfl (zvin (by decide)) dX7_digest_53 ?_
        refine lv_i2l (v := ((ms (2 : Int32).toNatClampNeg) : Int32).toInt64) X.x X.b dX7_digest_54 rfl ?_
        obtain ⟨q2, hq2, hf⟩ := zb_ok hf
        refine z_callV X Z hl (mX7_mixes l Δ ad thr saved mlen spot reads q1 ms mpast mtext mread (((ms (2 : Int32).toNatClampNeg) : Int32).toInt64) hq2) wd_1127 wd_1129 wd_58 wd_68 wd_1130 ok_X7_mixes 7 rfl 0 rfl (w' := (wX7 Δ ad thr saved mlen spot reads q2 ms mpast mtext mread)) su_16 fs_16 pu_16 rfl (rest := []) rfl (Nat.le_of_ble_eq_true rfl) ⟨Nat.le_of_ble_eq_true rfl, Nat.le_of_ble_eq_true rfl⟩ ⟨Nat.zero_le _, Nat.zero_le _⟩ (st1 := []) rfl dX7_digest_55 (fun H locs Z => ?_)
        refine lv_iconst (v := 0) X.x X.b dX7_digest_58 ki_0 ?_
        refine lv_istore_n (lv' := [(1, .int 0), (0, .ref (ad 0))]) X.x X.b dX7_digest_59 rfl hl (Nat.le_of_ble_eq_true rfl) rfl (fun ls hl => ?_)
        exact L60 zfuel thr saved mlen q2 ms mtext 0 hf _ _ _ Z (lv_sub hl [1, 0] rfl)
      · have hf := zif_f b1 hf
        refine lv_aload_n X.x X.b dX7_digest_20 rfl (lv_at hl 0 rfl) ?_
        refine lv_aload_n X.x X.b dX7_digest_21 rfl (lv_at hl 0 rfl) ?_
        refine lv_iload_n X.x X.b dX7_digest_22 rfl (lv_at hl 1 rfl) ?_
        obtain ⟨q3, hq3, hf⟩ := zb_ok hf
        refine z_callV X Z hl (mX7_counted l Δ ad thr saved mlen spot reads hash ms mpast mtext mread v1 hq3) wd_1070 wd_1072 wd_50 wd_68 wd_1073 ok_X7_counted 7 rfl 0 rfl (w' := (wX7 Δ ad thr saved mlen spot reads hash ms mpast mtext mread)) su_16 fs_16 pu_16 rfl (rest := [.ref (ad 0)]) rfl (Nat.le_of_ble_eq_true rfl) ⟨Nat.le_of_ble_eq_true rfl, Nat.le_of_ble_eq_true rfl⟩ ⟨Nat.zero_le _, Nat.zero_le _⟩ (st1 := [.int q3, .ref (ad 0)]) rfl dX7_digest_23 (fun H locs Z => ?_)
        refine lv_i2l (v := (q3 : Int32).toInt64) X.x X.b dX7_digest_26 rfl ?_
        obtain ⟨q4, hq4, hf⟩ := zb_ok hf
        refine z_callV X Z hl (mX7_mixes l Δ ad thr saved mlen spot reads hash ms mpast mtext mread ((q3 : Int32).toInt64) hq4) wd_1127 wd_1129 wd_58 wd_68 wd_1130 ok_X7_mixes 7 rfl 0 rfl (w' := (wX7 Δ ad thr saved mlen spot reads q4 ms mpast mtext mread)) su_16 fs_16 pu_16 rfl (rest := []) rfl (Nat.le_of_ble_eq_true rfl) ⟨Nat.le_of_ble_eq_true rfl, Nat.le_of_ble_eq_true rfl⟩ ⟨Nat.zero_le _, Nat.zero_le _⟩ (st1 := []) rfl dX7_digest_27 (fun H locs Z => ?_)
        refine lv_iinc (v := (v1 + 1)) (lv' := [(1, .int (v1 + 1)), (0, .ref (ad 0))]) X.x X.b dX7_digest_30 hl (k := 1) rfl (congrArg _ ki_1) (Nat.le_of_ble_eq_true rfl) rfl (fun ls hl => ?_)
        refine lv_goto (tgt := 14) X.x X.b dX7_digest_33 (by decide) ?_
        exact ih thr saved mlen q4 ms mtext (v1 + 1) hf _ _ _ Z (lv_sub hl [1, 0] rfl)
  rw [fX7_digest.eq_1] at hf
  refine lv_aload_n X.x X.b dX7_digest_0 rfl (lv_at hl 0 rfl) ?_
  refine lv_iconst (v := 0) X.x X.b dX7_digest_1 ki_0 ?_
  refine z_pf (w' := (wX7 Δ ad 0 saved mlen spot reads hash ms mpast mtext mread)) inG_X7 (ci := 7) rfl tyX7 tyX7_ok nmX7 0 (Nat.le_of_ble_eq_true rfl) rfl rfl X Z wd_822 0 rfl rfl rfl (Nat.le_of_ble_eq_true rfl) rfl dX7_digest_2 (fun H locs Z => ?_)
  refine lv_aload_n X.x X.b dX7_digest_5 rfl (lv_at hl 0 rfl) ?_
  refine lv_ldc2 (v := 2803) X.x X.b X.own (X.ts _ wd_1126) dX7_digest_6 ?_
  refine z_pf (w' := (wX7 Δ ad 0 saved mlen spot reads 2803 ms mpast mtext mread)) inG_X7 (ci := 7) rfl tyX7 tyX7_ok nmX7 9 (Nat.le_of_ble_eq_true rfl) rfl rfl X Z wd_831 0 rfl rfl rfl (Nat.le_of_ble_eq_true rfl) rfl dX7_digest_9 (fun H locs Z => ?_)
  refine lv_iconst (v := 0) X.x X.b dX7_digest_12 ki_0 ?_
  refine lv_istore_n (lv' := [(1, .int 0), (0, .ref (ad 0))]) X.x X.b dX7_digest_13 rfl hl (Nat.le_of_ble_eq_true rfl) rfl (fun ls hl => ?_)
  exact L14 zfuel 0 saved mlen 2803 ms mtext 0 hf _ _ _ Z (lv_sub hl [1, 0] rfl)
