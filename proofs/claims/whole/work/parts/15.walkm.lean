set_option maxRecDepth 100000 in
set_option maxHeartbeats 4000000 in
theorem mX7_change (l : Launch) (Δ : zE) (ad : Nat → Nat) (thr : Int32) (saved : Int32) (mlen : Int32) (spot : Int32) (reads : Int32) (hash : Int64) (ms : Nat → Int32) (mpast : Nat → Int32) (mtext : Nat → Int32) (mread : Nat → Int32) (x1 : Int32) (x2 : Int32) (x3 : Int32) {res : Int32 × Int32 × Int32 × (Nat → Int32) × (Nat → Int32)} (hf : fX7_change thr saved ms mpast x1 x2 x3 = some res) : zMet l Δ yX7_change cX7_change 5 (some .int) 2 43 [.ref (ad 0), .int x1, .int x2, .int x3] (wX7 Δ ad thr saved mlen spot reads hash ms mpast mtext mread) (wX7 Δ ad res.2.1 res.2.2.1 mlen spot reads hash res.2.2.2.1 res.2.2.2.2 mtext mread) (some (.int res.1)) := by
  refine z_start (by decide +kernel) (Nat.le_of_ble_eq_true rfl) ?_
  intro p e s m args below meth c A ls X Z hl
  have hl : lv_has ls 5 [(0, .ref (ad 0)), (1, .int x1), (2, .int x2), (3, .int x3)] := hl
  rw [fX7_change.eq_1] at hf
  refine lv_aload_n X.x X.b dX7_change_0 rfl (lv_at hl 0 rfl) ?_
  refine lv_aload_n X.x X.b dX7_change_1 rfl (lv_at hl 0 rfl) ?_
  refine lv_iload_n X.x X.b dX7_change_2 rfl (lv_at hl 1 rfl) ?_
  obtain ⟨q1, hq1, hf⟩ := zb_ok hf
  refine z_callV X Z hl (mX7_isPart l Δ ad thr saved mlen spot reads hash ms mpast mtext mread x1 hq1) wd_892 wd_894 wd_22 wd_68 wd_895 ok_X7_isPart 7 rfl 0 rfl (w' := (wX7 Δ ad thr saved mlen spot reads hash ms mpast mtext mread)) su_16 fs_16 pu_16 rfl (rest := [.ref (ad 0)]) rfl (Nat.le_of_ble_eq_true rfl) ⟨Nat.le_of_ble_eq_true rfl, Nat.le_of_ble_eq_true rfl⟩ ⟨Nat.zero_le _, Nat.zero_le _⟩ (st1 := [.int q1, .ref (ad 0)]) rfl dX7_change_3 (fun H locs Z => ?_)
  refine lv_if_ne (tgt := 13) X.x X.b dX7_change_6 (by decide) (fun b1 => ?_) (fun b1 => ?_)
  · have hf := zif_f b1 hf
    refine lv_iload_n X.x X.b dX7_change_13 rfl (lv_at hl 2 rfl) ?_
    refine lv_iconst (v := 1) X.x X.b dX7_change_14 ki_1 ?_
    refine lv_bipush (v := 63) X.x X.b dX7_change_15 kb_63 ?_
    obtain ⟨q2, hq2, hf⟩ := zb_ok hf
    refine z_callS X Z hl (mX7_in l Δ  x2 1 63 hq2) wd_870 wd_871 wd_68 wd_872 ok_X7_in (w' := (wX7 Δ ad thr saved mlen spot reads hash ms mpast mtext mread)) zSub_nil rfl zput_nil rfl (rest := [.ref (ad 0)]) rfl (Nat.le_of_ble_eq_true rfl) ⟨Nat.le_of_ble_eq_true rfl, Nat.le_of_ble_eq_true rfl⟩ ⟨Nat.zero_le _, Nat.zero_le _⟩ (st1 := [.int q2, .ref (ad 0)]) rfl dX7_change_17 (fun H locs Z => ?_)
    refine lv_if_eq (tgt := 31) X.x X.b dX7_change_20 (by decide) (fun b2 => ?_) (fun b2 => ?_)
    · have hf := zif_t b2 hf
      refine lv_iconst (v := 2) X.x X.b dX7_change_31 ki_2 ?_
      refine lv_goto (tgt := 36) X.x X.b dX7_change_32 (by decide) ?_
      obtain ⟨q3, hq3, hf⟩ := zb_ok hf
      refine z_callV X Z hl (mX7_refuses l Δ ad thr saved mlen spot reads hash ms mpast mtext mread 2 hq3) wd_862 wd_864 wd_18 wd_68 wd_865 ok_X7_refuses 7 rfl 0 rfl (w' := (wX7 Δ ad q3.2 saved mlen spot reads hash ms mpast mtext mread)) su_16 fs_16 pu_16 rfl (rest := []) rfl (Nat.le_of_ble_eq_true rfl) ⟨Nat.le_of_ble_eq_true rfl, Nat.le_of_ble_eq_true rfl⟩ ⟨Nat.zero_le _, Nat.zero_le _⟩ (st1 := [.int q3.1]) rfl dX7_change_36 (fun H locs Z => ?_)
      refine lv_if_eq (tgt := 44) X.x X.b dX7_change_39 (by decide) (fun b3 => ?_) (fun b3 => ?_)
      · have hf := zif_t b3 hf
        refine lv_aload_n X.x X.b dX7_change_44 rfl (lv_at hl 0 rfl) ?_
        obtain ⟨q4, hq4, hf⟩ := zb_ok hf
        refine z_callV X Z hl (mX7_saves l Δ ad q3.2 saved mlen spot reads hash ms mpast mtext mread hq4) wd_876 wd_878 wd_19 wd_68 wd_879 ok_X7_saves 7 rfl 0 rfl (w' := (wX7 Δ ad q3.2 q4.1 mlen spot reads hash ms q4.2 mtext mread)) su_16 fs_16 pu_16 rfl (rest := []) rfl (Nat.le_of_ble_eq_true rfl) ⟨Nat.le_of_ble_eq_true rfl, Nat.le_of_ble_eq_true rfl⟩ ⟨Nat.zero_le _, Nat.zero_le _⟩ (st1 := []) rfl dX7_change_45 (fun H locs Z => ?_)
        refine lv_aload_n X.x X.b dX7_change_48 rfl (lv_at hl 0 rfl) ?_
        refine lv_iload_n X.x X.b dX7_change_49 rfl (lv_at hl 1 rfl) ?_
        refine lv_iconst (v := 0) X.x X.b dX7_change_50 ki_0 ?_
        obtain ⟨q5, hq5, hf⟩ := zb_ok hf
        refine z_callV X Z hl (mX7_of l Δ ad q3.2 q4.1 mlen spot reads hash ms q4.2 mtext mread x1 0 hq5) wd_896 wd_898 wd_23 wd_68 wd_899 ok_X7_of 7 rfl 0 rfl (w' := (wX7 Δ ad q3.2 q4.1 mlen spot reads hash ms q4.2 mtext mread)) su_16 fs_16 pu_16 rfl (rest := []) rfl (Nat.le_of_ble_eq_true rfl) ⟨Nat.le_of_ble_eq_true rfl, Nat.le_of_ble_eq_true rfl⟩ ⟨Nat.zero_le _, Nat.zero_le _⟩ (st1 := [.int q5]) rfl dX7_change_51 (fun H locs Z => ?_)
        refine lv_istore (lv' := [(4, .int q5), (0, .ref (ad 0)), (1, .int x1), (2, .int x2), (3, .int x3)]) X.x X.b dX7_change_54 hl (Nat.le_of_ble_eq_true rfl) rfl (fun ls hl => ?_)
        refine lv_aload_n X.x X.b dX7_change_56 rfl (lv_at hl 1 rfl) ?_
        refine z_gf inG_X7 (ci := 7) rfl 1 (Nat.le_of_ble_eq_true rfl) rfl X Z wd_823 0 rfl (v := .ref (ad 1)) rfl dX7_change_57 ?_
        refine lv_iconst (v := 5) X.x X.b dX7_change_60 ki_5 ?_
        refine lv_iconst (v := 3) X.x X.b dX7_change_61 ki_3 ?_
        refine lv_iload_n X.x X.b dX7_change_62 rfl (lv_at hl 2 rfl) ?_
        refine lv_imul X.x X.b dX7_change_63 ?_
        refine lv_iadd X.x X.b dX7_change_64 ?_
        refine lv_iconst (v := 0) X.x X.b dX7_change_65 ki_0 ?_
        refine lv_iadd X.x X.b dX7_change_66 ?_
        refine lv_iload_n X.x X.b dX7_change_67 rfl (lv_at hl 3 rfl) ?_
        obtain ⟨b4, hf⟩ := zg_in hf
        refine z_iast (w' := (wX7 Δ ad q3.2 q4.1 mlen spot reads hash (upd ms ((5 + (3 * x1)) + 0).toNatClampNeg x2) q4.2 mtext mread)) X Z 1 rfl b4 rfl dX7_change_68 (fun H locs Z => ?_)
        refine lv_aload_n X.x X.b dX7_change_69 rfl (lv_at hl 1 rfl) ?_
        refine z_gf inG_X7 (ci := 7) rfl 1 (Nat.le_of_ble_eq_true rfl) rfl X Z wd_823 0 rfl (v := .ref (ad 1)) rfl dX7_change_70 ?_
        refine lv_iconst (v := 5) X.x X.b dX7_change_73 ki_5 ?_
        refine lv_iconst (v := 3) X.x X.b dX7_change_74 ki_3 ?_
        refine lv_iload_n X.x X.b dX7_change_75 rfl (lv_at hl 2 rfl) ?_
        refine lv_imul X.x X.b dX7_change_76 ?_
        refine lv_iadd X.x X.b dX7_change_77 ?_
        refine lv_iconst (v := 1) X.x X.b dX7_change_78 ki_1 ?_
        refine lv_iadd X.x X.b dX7_change_79 ?_
        refine lv_iload_n X.x X.b dX7_change_80 rfl (lv_at hl 4 rfl) ?_
        obtain ⟨b5, hf⟩ := zg_in hf
        refine z_iast (w' := (wX7 Δ ad q3.2 q4.1 mlen spot reads hash (upd (upd ms ((5 + (3 * x1)) + 0).toNatClampNeg x2) ((5 + (3 * x1)) + 1).toNatClampNeg x3) q4.2 mtext mread)) X Z 1 rfl b5 rfl dX7_change_81 (fun H locs Z => ?_)
        refine lv_iload X.x X.b dX7_change_82 (lv_at hl 0 rfl) ?_
        cases hf
        exact z_iret X Z dX7_change_84
      · have hf := zif_f b3 hf
        refine lv_iconst (v := 0) X.x X.b dX7_change_42 ki_0 ?_
        cases hf
        exact z_iret X Z dX7_change_43
    · have hf := zif_f b2 hf
      refine lv_iload_n X.x X.b dX7_change_23 rfl (lv_at hl 2 rfl) ?_
      refine lv_iload_n X.x X.b dX7_change_24 rfl (lv_at hl 3 rfl) ?_
      obtain ⟨q6, hq6, hf⟩ := zb_ok hf
      refine z_callS X Z hl (mX7_isCliff l Δ  x2 x3 hq6) wd_873 wd_874 wd_68 wd_875 ok_X7_isCliff (w' := (wX7 Δ ad thr saved mlen spot reads hash ms mpast mtext mread)) zSub_nil rfl zput_nil rfl (rest := [.ref (ad 0)]) rfl (Nat.le_of_ble_eq_true rfl) ⟨Nat.le_of_ble_eq_true rfl, Nat.le_of_ble_eq_true rfl⟩ ⟨Nat.zero_le _, Nat.zero_le _⟩ (st1 := [.int q6, .ref (ad 0)]) rfl dX7_change_25 (fun H locs Z => ?_)
      refine lv_if_ne (tgt := 35) X.x X.b dX7_change_28 (by decide) (fun b6 => ?_) (fun b6 => ?_)
      · have hf := zif_f b6 hf
        refine lv_iconst (v := 0) X.x X.b dX7_change_35 ki_0 ?_
        obtain ⟨q7, hq7, hf⟩ := zb_ok hf
        refine z_callV X Z hl (mX7_refuses l Δ ad thr saved mlen spot reads hash ms mpast mtext mread 0 hq7) wd_862 wd_864 wd_18 wd_68 wd_865 ok_X7_refuses 7 rfl 0 rfl (w' := (wX7 Δ ad q7.2 saved mlen spot reads hash ms mpast mtext mread)) su_16 fs_16 pu_16 rfl (rest := []) rfl (Nat.le_of_ble_eq_true rfl) ⟨Nat.le_of_ble_eq_true rfl, Nat.le_of_ble_eq_true rfl⟩ ⟨Nat.zero_le _, Nat.zero_le _⟩ (st1 := [.int q7.1]) rfl dX7_change_36 (fun H locs Z => ?_)
        refine lv_if_eq (tgt := 44) X.x X.b dX7_change_39 (by decide) (fun b7 => ?_) (fun b7 => ?_)
        · have hf := zif_t b7 hf
          refine lv_aload_n X.x X.b dX7_change_44 rfl (lv_at hl 0 rfl) ?_
          obtain ⟨q8, hq8, hf⟩ := zb_ok hf
          refine z_callV X Z hl (mX7_saves l Δ ad q7.2 saved mlen spot reads hash ms mpast mtext mread hq8) wd_876 wd_878 wd_19 wd_68 wd_879 ok_X7_saves 7 rfl 0 rfl (w' := (wX7 Δ ad q7.2 q8.1 mlen spot reads hash ms q8.2 mtext mread)) su_16 fs_16 pu_16 rfl (rest := []) rfl (Nat.le_of_ble_eq_true rfl) ⟨Nat.le_of_ble_eq_true rfl, Nat.le_of_ble_eq_true rfl⟩ ⟨Nat.zero_le _, Nat.zero_le _⟩ (st1 := []) rfl dX7_change_45 (fun H locs Z => ?_)
          refine lv_aload_n X.x X.b dX7_change_48 rfl (lv_at hl 0 rfl) ?_
          refine lv_iload_n X.x X.b dX7_change_49 rfl (lv_at hl 1 rfl) ?_
          refine lv_iconst (v := 0) X.x X.b dX7_change_50 ki_0 ?_
          obtain ⟨q9, hq9, hf⟩ := zb_ok hf
          refine z_callV X Z hl (mX7_of l Δ ad q7.2 q8.1 mlen spot reads hash ms q8.2 mtext mread x1 0 hq9) wd_896 wd_898 wd_23 wd_68 wd_899 ok_X7_of 7 rfl 0 rfl (w' := (wX7 Δ ad q7.2 q8.1 mlen spot reads hash ms q8.2 mtext mread)) su_16 fs_16 pu_16 rfl (rest := []) rfl (Nat.le_of_ble_eq_true rfl) ⟨Nat.le_of_ble_eq_true rfl, Nat.le_of_ble_eq_true rfl⟩ ⟨Nat.zero_le _, Nat.zero_le _⟩ (st1 := [.int q9]) rfl dX7_change_51 (fun H locs Z => ?_)
          refine lv_istore (lv' := [(4, .int q9), (0, .ref (ad 0)), (1, .int x1), (2, .int x2), (3, .int x3)]) X.x X.b dX7_change_54 hl (Nat.le_of_ble_eq_true rfl) rfl (fun ls hl => ?_)
          refine lv_aload_n X.x X.b dX7_change_56 rfl (lv_at hl 1 rfl) ?_
          refine z_gf inG_X7 (ci := 7) rfl 1 (Nat.le_of_ble_eq_true rfl) rfl X Z wd_823 0 rfl (v := .ref (ad 1)) rfl dX7_change_57 ?_
          refine lv_iconst (v := 5) X.x X.b dX7_change_60 ki_5 ?_
          refine lv_iconst (v := 3) X.x X.b dX7_change_61 ki_3 ?_
          refine lv_iload_n X.x X.b dX7_change_62 rfl (lv_at hl 2 rfl) ?_
          refine lv_imul X.x X.b dX7_change_63 ?_
          refine lv_iadd X.x X.b dX7_change_64 ?_
          refine lv_iconst (v := 0) X.x X.b dX7_change_65 ki_0 ?_
          refine lv_iadd X.x X.b dX7_change_66 ?_
          refine lv_iload_n X.x X.b dX7_change_67 rfl (lv_at hl 3 rfl) ?_
          obtain ⟨b8, hf⟩ := zg_in hf
          refine z_iast (w' := (wX7 Δ ad q7.2 q8.1 mlen spot reads hash (upd ms ((5 + (3 * x1)) + 0).toNatClampNeg x2) q8.2 mtext mread)) X Z 1 rfl b8 rfl dX7_change_68 (fun H locs Z => ?_)
          refine lv_aload_n X.x X.b dX7_change_69 rfl (lv_at hl 1 rfl) ?_
          refine z_gf inG_X7 (ci := 7) rfl 1 (Nat.le_of_ble_eq_true rfl) rfl X Z wd_823 0 rfl (v := .ref (ad 1)) rfl dX7_change_70 ?_
          refine lv_iconst (v := 5) X.x X.b dX7_change_73 ki_5 ?_
          refine lv_iconst (v := 3) X.x X.b dX7_change_74 ki_3 ?_
          refine lv_iload_n X.x X.b dX7_change_75 rfl (lv_at hl 2 rfl) ?_
          refine lv_imul X.x X.b dX7_change_76 ?_
          refine lv_iadd X.x X.b dX7_change_77 ?_
          refine lv_iconst (v := 1) X.x X.b dX7_change_78 ki_1 ?_
          refine lv_iadd X.x X.b dX7_change_79 ?_
          refine lv_iload_n X.x X.b dX7_change_80 rfl (lv_at hl 4 rfl) ?_
          obtain ⟨b9, hf⟩ := zg_in hf
          refine z_iast (w' := (wX7 Δ ad q7.2 q8.1 mlen spot reads hash (upd (upd ms ((5 + (3 * x1)) + 0).toNatClampNeg x2) ((5 + (3 * x1)) + 1).toNatClampNeg x3) q8.2 mtext mread)) X Z 1 rfl b9 rfl dX7_change_81 (fun H locs Z => ?_)
          refine lv_iload X.x X.b dX7_change_82 (lv_at hl 0 rfl) ?_
          cases hf
          exact z_iret X Z dX7_change_84
        · have hf := zif_f b7 hf
          refine lv_iconst (v := 0) X.x X.b dX7_change_42 ki_0 ?_
          cases hf
          exact z_iret X Z dX7_change_43
      · have hf := zif_t b6 hf
        refine lv_iconst (v := 2) X.x X.b dX7_change_31 ki_2 ?_
        refine lv_goto (tgt := 36) X.x X.b dX7_change_32 (by decide) ?_
        obtain ⟨q10, hq10, hf⟩ := zb_ok hf
        refine z_callV X Z hl (mX7_refuses l Δ ad thr saved mlen spot reads hash ms mpast mtext mread 2 hq10) wd_862 wd_864 wd_18 wd_68 wd_865 ok_X7_refuses 7 rfl 0 rfl (w' := (wX7 Δ ad q10.2 saved mlen spot reads hash ms mpast mtext mread)) su_16 fs_16 pu_16 rfl (rest := []) rfl (Nat.le_of_ble_eq_true rfl) ⟨Nat.le_of_ble_eq_true rfl, Nat.le_of_ble_eq_true rfl⟩ ⟨Nat.zero_le _, Nat.zero_le _⟩ (st1 := [.int q10.1]) rfl dX7_change_36 (fun H locs Z => ?_)
        refine lv_if_eq (tgt := 44) X.x X.b dX7_change_39 (by decide) (fun b10 => ?_) (fun b10 => ?_)
        · have hf := zif_t b10 hf
          refine lv_aload_n X.x X.b dX7_change_44 rfl (lv_at hl 0 rfl) ?_
          obtain ⟨q11, hq11, hf⟩ := zb_ok hf
          refine z_callV X Z hl (mX7_saves l Δ ad q10.2 saved mlen spot reads hash ms mpast mtext mread hq11) wd_876 wd_878 wd_19 wd_68 wd_879 ok_X7_saves 7 rfl 0 rfl (w' := (wX7 Δ ad q10.2 q11.1 mlen spot reads hash ms q11.2 mtext mread)) su_16 fs_16 pu_16 rfl (rest := []) rfl (Nat.le_of_ble_eq_true rfl) ⟨Nat.le_of_ble_eq_true rfl, Nat.le_of_ble_eq_true rfl⟩ ⟨Nat.zero_le _, Nat.zero_le _⟩ (st1 := []) rfl dX7_change_45 (fun H locs Z => ?_)
          refine lv_aload_n X.x X.b dX7_change_48 rfl (lv_at hl 0 rfl) ?_
          refine lv_iload_n X.x X.b dX7_change_49 rfl (lv_at hl 1 rfl) ?_
          refine lv_iconst (v := 0) X.x X.b dX7_change_50 ki_0 ?_
          obtain ⟨q12, hq12, hf⟩ := zb_ok hf
          refine z_callV X Z hl (mX7_of l Δ ad q10.2 q11.1 mlen spot reads hash ms q11.2 mtext mread x1 0 hq12) wd_896 wd_898 wd_23 wd_68 wd_899 ok_X7_of 7 rfl 0 rfl (w' := (wX7 Δ ad q10.2 q11.1 mlen spot reads hash ms q11.2 mtext mread)) su_16 fs_16 pu_16 rfl (rest := []) rfl (Nat.le_of_ble_eq_true rfl) ⟨Nat.le_of_ble_eq_true rfl, Nat.le_of_ble_eq_true rfl⟩ ⟨Nat.zero_le _, Nat.zero_le _⟩ (st1 := [.int q12]) rfl dX7_change_51 (fun H locs Z => ?_)
          refine lv_istore (lv' := [(4, .int q12), (0, .ref (ad 0)), (1, .int x1), (2, .int x2), (3, .int x3)]) X.x X.b dX7_change_54 hl (Nat.le_of_ble_eq_true rfl) rfl (fun ls hl => ?_)
          refine lv_aload_n X.x X.b dX7_change_56 rfl (lv_at hl 1 rfl) ?_
          refine z_gf inG_X7 (ci := 7) rfl 1 (Nat.le_of_ble_eq_true rfl) rfl X Z wd_823 0 rfl (v := .ref (ad 1)) rfl dX7_change_57 ?_
          refine lv_iconst (v := 5) X.x X.b dX7_change_60 ki_5 ?_
          refine lv_iconst (v := 3) X.x X.b dX7_change_61 ki_3 ?_
          refine lv_iload_n X.x X.b dX7_change_62 rfl (lv_at hl 2 rfl) ?_
          refine lv_imul X.x X.b dX7_change_63 ?_
          refine lv_iadd X.x X.b dX7_change_64 ?_
          refine lv_iconst (v := 0) X.x X.b dX7_change_65 ki_0 ?_
          refine lv_iadd X.x X.b dX7_change_66 ?_
          refine lv_iload_n X.x X.b dX7_change_67 rfl (lv_at hl 3 rfl) ?_
          obtain ⟨b11, hf⟩ := zg_in hf
          refine z_iast (w' := (wX7 Δ ad q10.2 q11.1 mlen spot reads hash (upd ms ((5 + (3 * x1)) + 0).toNatClampNeg x2) q11.2 mtext mread)) X Z 1 rfl b11 rfl dX7_change_68 (fun H locs Z => ?_)
          refine lv_aload_n X.x X.b dX7_change_69 rfl (lv_at hl 1 rfl) ?_
          refine z_gf inG_X7 (ci := 7) rfl 1 (Nat.le_of_ble_eq_true rfl) rfl X Z wd_823 0 rfl (v := .ref (ad 1)) rfl dX7_change_70 ?_
          refine lv_iconst (v := 5) X.x X.b dX7_change_73 ki_5 ?_
          refine lv_iconst (v := 3) X.x X.b dX7_change_74 ki_3 ?_
          refine lv_iload_n X.x X.b dX7_change_75 rfl (lv_at hl 2 rfl) ?_
          refine lv_imul X.x X.b dX7_change_76 ?_
          refine lv_iadd X.x X.b dX7_change_77 ?_
          refine lv_iconst (v := 1) X.x X.b dX7_change_78 ki_1 ?_
          refine lv_iadd X.x X.b dX7_change_79 ?_
          refine lv_iload_n X.x X.b dX7_change_80 rfl (lv_at hl 4 rfl) ?_
          obtain ⟨b12, hf⟩ := zg_in hf
          refine z_iast (w' := (wX7 Δ ad q10.2 q11.1 mlen spot reads hash (upd (upd ms ((5 + (3 * x1)) + 0).toNatClampNeg x2) ((5 + (3 * x1)) + 1).toNatClampNeg x3) q11.2 mtext mread)) X Z 1 rfl b12 rfl dX7_change_81 (fun H locs Z => ?_)
          refine lv_iload X.x X.b dX7_change_82 (lv_at hl 0 rfl) ?_
          cases hf
          exact z_iret X Z dX7_change_84
        · have hf := zif_f b10 hf
          refine lv_iconst (v := 0) X.x X.b dX7_change_42 ki_0 ?_
          cases hf
          exact z_iret X Z dX7_change_43
  · have hf := zif_t b1 hf
    refine lv_iconst (v := 1) X.x X.b dX7_change_9 ki_1 ?_
    refine lv_goto (tgt := 36) X.x X.b dX7_change_10 (by decide) ?_
    obtain ⟨q13, hq13, hf⟩ := zb_ok hf
    refine z_callV X Z hl (mX7_refuses l Δ ad thr saved mlen spot reads hash ms mpast mtext mread 1 hq13) wd_862 wd_864 wd_18 wd_68 wd_865 ok_X7_refuses 7 rfl 0 rfl (w' := (wX7 Δ ad q13.2 saved mlen spot reads hash ms mpast mtext mread)) su_16 fs_16 pu_16 rfl (rest := []) rfl (Nat.le_of_ble_eq_true rfl) ⟨Nat.le_of_ble_eq_true rfl, Nat.le_of_ble_eq_true rfl⟩ ⟨Nat.zero_le _, Nat.zero_le _⟩ (st1 := [.int q13.1]) rfl dX7_change_36 (fun H locs Z => ?_)
    refine lv_if_eq (tgt := 44) X.x X.b dX7_change_39 (by decide) (fun b13 => ?_) (fun b13 => ?_)
    · have hf := zif_t b13 hf
      refine lv_aload_n X.x X.b dX7_change_44 rfl (lv_at hl 0 rfl) ?_
      obtain ⟨q14, hq14, hf⟩ := zb_ok hf
      refine z_callV X Z hl (mX7_saves l Δ ad q13.2 saved mlen spot reads hash ms mpast mtext mread hq14) wd_876 wd_878 wd_19 wd_68 wd_879 ok_X7_saves 7 rfl 0 rfl (w' := (wX7 Δ ad q13.2 q14.1 mlen spot reads hash ms q14.2 mtext mread)) su_16 fs_16 pu_16 rfl (rest := []) rfl (Nat.le_of_ble_eq_true rfl) ⟨Nat.le_of_ble_eq_true rfl, Nat.le_of_ble_eq_true rfl⟩ ⟨Nat.zero_le _, Nat.zero_le _⟩ (st1 := []) rfl dX7_change_45 (fun H locs Z => ?_)
      refine lv_aload_n X.x X.b dX7_change_48 rfl (lv_at hl 0 rfl) ?_
      refine lv_iload_n X.x X.b dX7_change_49 rfl (lv_at hl 1 rfl) ?_
      refine lv_iconst (v := 0) X.x X.b dX7_change_50 ki_0 ?_
      obtain ⟨q15, hq15, hf⟩ := zb_ok hf
      refine z_callV X Z hl (mX7_of l Δ ad q13.2 q14.1 mlen spot reads hash ms q14.2 mtext mread x1 0 hq15) wd_896 wd_898 wd_23 wd_68 wd_899 ok_X7_of 7 rfl 0 rfl (w' := (wX7 Δ ad q13.2 q14.1 mlen spot reads hash ms q14.2 mtext mread)) su_16 fs_16 pu_16 rfl (rest := []) rfl (Nat.le_of_ble_eq_true rfl) ⟨Nat.le_of_ble_eq_true rfl, Nat.le_of_ble_eq_true rfl⟩ ⟨Nat.zero_le _, Nat.zero_le _⟩ (st1 := [.int q15]) rfl dX7_change_51 (fun H locs Z => ?_)
      refine lv_istore (lv' := [(4, .int q15), (0, .ref (ad 0)), (1, .int x1), (2, .int x2), (3, .int x3)]) X.x X.b dX7_change_54 hl (Nat.le_of_ble_eq_true rfl) rfl (fun ls hl => ?_)
      refine lv_aload_n X.x X.b dX7_change_56 rfl (lv_at hl 1 rfl) ?_
      refine z_gf inG_X7 (ci := 7) rfl 1 (Nat.le_of_ble_eq_true rfl) rfl X Z wd_823 0 rfl (v := .ref (ad 1)) rfl dX7_change_57 ?_
      refine lv_iconst (v := 5) X.x X.b dX7_change_60 ki_5 ?_
      refine lv_iconst (v := 3) X.x X.b dX7_change_61 ki_3 ?_
      refine lv_iload_n X.x X.b dX7_change_62 rfl (lv_at hl 2 rfl) ?_
      refine lv_imul X.x X.b dX7_change_63 ?_
      refine lv_iadd X.x X.b dX7_change_64 ?_
      refine lv_iconst (v := 0) X.x X.b dX7_change_65 ki_0 ?_
      refine lv_iadd X.x X.b dX7_change_66 ?_
      refine lv_iload_n X.x X.b dX7_change_67 rfl (lv_at hl 3 rfl) ?_
      obtain ⟨b14, hf⟩ := zg_in hf
      refine z_iast (w' := (wX7 Δ ad q13.2 q14.1 mlen spot reads hash (upd ms ((5 + (3 * x1)) + 0).toNatClampNeg x2) q14.2 mtext mread)) X Z 1 rfl b14 rfl dX7_change_68 (fun H locs Z => ?_)
      refine lv_aload_n X.x X.b dX7_change_69 rfl (lv_at hl 1 rfl) ?_
      refine z_gf inG_X7 (ci := 7) rfl 1 (Nat.le_of_ble_eq_true rfl) rfl X Z wd_823 0 rfl (v := .ref (ad 1)) rfl dX7_change_70 ?_
      refine lv_iconst (v := 5) X.x X.b dX7_change_73 ki_5 ?_
      refine lv_iconst (v := 3) X.x X.b dX7_change_74 ki_3 ?_
      refine lv_iload_n X.x X.b dX7_change_75 rfl (lv_at hl 2 rfl) ?_
      refine lv_imul X.x X.b dX7_change_76 ?_
      refine lv_iadd X.x X.b dX7_change_77 ?_
      refine lv_iconst (v := 1) X.x X.b dX7_change_78 ki_1 ?_
      refine lv_iadd X.x X.b dX7_change_79 ?_
      refine lv_iload_n X.x X.b dX7_change_80 rfl (lv_at hl 4 rfl) ?_
      obtain ⟨b15, hf⟩ := zg_in hf
      refine z_iast (w' := (wX7 Δ ad q13.2 q14.1 mlen spot reads hash (upd (upd ms ((5 + (3 * x1)) + 0).toNatClampNeg x2) ((5 + (3 * x1)) + 1).toNatClampNeg x3) q14.2 mtext mread)) X Z 1 rfl b15 rfl dX7_change_81 (fun H locs Z => ?_)
      refine lv_iload X.x X.b dX7_change_82 (lv_at hl 0 rfl) ?_
      cases hf
      exact z_iret X Z dX7_change_84
    · have hf := zif_f b13 hf
      refine lv_iconst (v := 0) X.x X.b dX7_change_42 ki_0 ?_
      cases hf
      exact z_iret X Z dX7_change_43
set_option maxRecDepth 100000 in
set_option maxHeartbeats 4000000 in
theorem mX7_readersOf (l : Launch) (Δ : zE) (ad : Nat → Nat) (thr : Int32) (saved : Int32) (mlen : Int32) (spot : Int32) (reads : Int32) (hash : Int64) (ms : Nat → Int32) (mpast : Nat → Int32) (mtext : Nat → Int32) (mread : Nat → Int32) (x1 : Int32) {res : Int32} (hf : fX7_readersOf ms x1 = some res) : zMet l Δ yX7_readersOf cX7_readersOf 4 (some .int) 1 22 [.ref (ad 0), .int x1] (wX7 Δ ad thr saved mlen spot reads hash ms mpast mtext mread) (wX7 Δ ad thr saved mlen spot reads hash ms mpast mtext mread) (some (.int res)) := by
  refine z_start (by decide +kernel) (Nat.le_of_ble_eq_true rfl) ?_
  intro p e s m args below meth c A ls X Z hl
  have hl : lv_has ls 4 [(0, .ref (ad 0)), (1, .int x1)] := hl
  have L4 : ∀ (k : Nat) (ms : Nat → Int32) (v1 : Int32) (v2 : Int32) (v3 : Int32), fX7_readersOf_4 k ms v1 v2 v3 = some res → ∀ (H : Heap) (locs : List Loc) (ls : Array Slot), zW Δ A s.heap (wX7 Δ ad thr saved mlen spot reads hash ms mpast mtext mread) H locs → lv_has ls 4 [(0, .ref (ad 0)), (1, .int v1), (2, .int v2), (3, .int v3)] → W p l e { frames := 1, cells := 0, slots := 0, locals := 22 } s m args below meth c H locs 0 0 (zEnd Δ below args s 0 0 A (some (.int res)) (wX7 Δ ad thr saved mlen spot reads hash ms mpast mtext mread)) (F0 m 4 ls []) := by
    intro k
    induction k with
    | zero =>
      intro ms v1 v2 v3 hf
      rw [fX7_readersOf_4.eq_1] at hf
      cases hf
    | succ k ih =>
      intro ms v1 v2 v3 hf H locs ls Z hl
      rw [fX7_readersOf_4.eq_2] at hf
      refine lv_iload_n X.x X.b dX7_readersOf_4 rfl (lv_at hl 3 rfl) ?_
      refine lv_bipush (v := 6) X.x X.b dX7_readersOf_5 kb_6 ?_
      refine lv_icmp_ge (tgt := 36) X.x X.b dX7_readersOf_7 (by decide) (fun b1 => ?_) (fun b1 => ?_)
      · have hf := zif_t b1 hf
        refine lv_iload_n X.x X.b dX7_readersOf_36 rfl (lv_at hl 2 rfl) ?_
        cases hf
        exact z_iret X Z dX7_readersOf_37
      · have hf := zif_f b1 hf
        refine lv_iload_n X.x X.b dX7_readersOf_10 rfl (lv_at hl 2 rfl) ?_
        refine lv_aload_n X.x X.b dX7_readersOf_11 rfl (lv_at hl 0 rfl) ?_
        refine lv_iload_n X.x X.b dX7_readersOf_12 rfl (lv_at hl 3 rfl) ?_
        refine lv_iload_n X.x X.b dX7_readersOf_13 rfl (lv_at hl 1 rfl) ?_
        obtain ⟨q1, hq1, hf⟩ := zb_ok hf
        refine z_callV X Z hl (mX7_known l Δ ad thr saved mlen spot reads hash ms mpast mtext mread v3 v1 hq1) wd_908 wd_910 wd_25 wd_68 wd_911 ok_X7_known 7 rfl 0 rfl (w' := (wX7 Δ ad thr saved mlen spot reads hash ms mpast mtext mread)) su_16 fs_16 pu_16 rfl (rest := [.int v2]) rfl (Nat.le_of_ble_eq_true rfl) ⟨Nat.le_of_ble_eq_true rfl, Nat.le_of_ble_eq_true rfl⟩ ⟨Nat.zero_le _, Nat.zero_le _⟩ (st1 := [.int q1, .int v2]) rfl dX7_readersOf_14 (fun H locs Z => ?_)
        refine lv_iconst (v := 2) X.x X.b dX7_readersOf_17 ki_2 ?_
        refine lv_icmp_ne (tgt := 27) X.x X.b dX7_readersOf_18 (by decide) (fun b2 => ?_) (fun b2 => ?_)
        · have hf := zif_f b2 hf
          refine lv_iconst (v := 0) X.x X.b dX7_readersOf_27 ki_0 ?_
          refine lv_ior X.x X.b dX7_readersOf_28 ?_
          refine lv_istore_n (lv' := [(2, .int (v2 ||| 0)), (0, .ref (ad 0)), (1, .int v1), (3, .int v3)]) X.x X.b dX7_readersOf_29 rfl hl (Nat.le_of_ble_eq_true rfl) rfl (fun ls hl => ?_)
          refine lv_iinc (v := (v3 + 1)) (lv' := [(3, .int (v3 + 1)), (2, .int (v2 ||| 0)), (0, .ref (ad 0)), (1, .int v1)]) X.x X.b dX7_readersOf_30 hl (k := 3) rfl (congrArg _ ki_1) (Nat.le_of_ble_eq_true rfl) rfl (fun ls hl => ?_)
          refine lv_goto (tgt := 4) X.x X.b dX7_readersOf_33 (by decide) ?_
          exact ih ms v1 (v2 ||| 0) (v3 + 1) hf _ _ _ Z (lv_sub hl [2, 3, 1, 0] rfl)
        · have hf := zif_t b2 hf
          refine lv_iconst (v := 1) X.x X.b dX7_readersOf_21 ki_1 ?_
          refine lv_iload_n X.x X.b dX7_readersOf_22 rfl (lv_at hl 3 rfl) ?_
          refine lv_ishl X.x X.b dX7_readersOf_23 ?_
          refine lv_goto (tgt := 28) X.x X.b dX7_readersOf_24 (by decide) ?_
          refine lv_ior X.x X.b dX7_readersOf_28 ?_
          refine lv_istore_n (lv' := [(2, .int (v2 ||| ((1 : Int32) <<< (v3 &&& 31)))), (0, .ref (ad 0)), (1, .int v1), (3, .int v3)]) X.x X.b dX7_readersOf_29 rfl hl (Nat.le_of_ble_eq_true rfl) rfl (fun ls hl => ?_)
          refine lv_iinc (v := (v3 + 1)) (lv' := [(3, .int (v3 + 1)), (2, .int (v2 ||| ((1 : Int32) <<< (v3 &&& 31)))), (0, .ref (ad 0)), (1, .int v1)]) X.x X.b dX7_readersOf_30 hl (k := 3) rfl (congrArg _ ki_1) (Nat.le_of_ble_eq_true rfl) rfl (fun ls hl => ?_)
          refine lv_goto (tgt := 4) X.x X.b dX7_readersOf_33 (by decide) ?_
          exact ih ms v1 (v2 ||| ((1 : Int32) <<< (v3 &&& 31))) (v3 + 1) hf _ _ _ Z (lv_sub hl [2, 3, 1, 0] rfl)
  rw [fX7_readersOf.eq_1] at hf
  refine lv_iconst (v := 0) X.x X.b dX7_readersOf_0 ki_0 ?_
  refine lv_istore_n (lv' := [(2, .int 0), (0, .ref (ad 0)), (1, .int x1)]) X.x X.b dX7_readersOf_1 rfl hl (Nat.le_of_ble_eq_true rfl) rfl (fun ls hl => ?_)
  refine lv_iconst (v := 0) X.x X.b dX7_readersOf_2 ki_0 ?_
  refine lv_istore_n (lv' := [(3, .int 0), (2, .int 0), (0, .ref (ad 0)), (1, .int x1)]) X.x X.b dX7_readersOf_3 rfl hl (Nat.le_of_ble_eq_true rfl) rfl (fun ls hl => ?_)
  exact L4 zfuel ms x1 0 0 hf _ _ _ Z (lv_sub hl [2, 3, 1, 0] rfl)
set_option maxRecDepth 100000 in
set_option maxHeartbeats 4000000 in
theorem mX7_removeLast (l : Launch) (Δ : zE) (ad : Nat → Nat) (thr : Int32) (saved : Int32) (mlen : Int32) (spot : Int32) (reads : Int32) (hash : Int64) (ms : Nat → Int32) (mpast : Nat → Int32) (mtext : Nat → Int32) (mread : Nat → Int32)  {res : Int32 × Int32 × Int32 × (Nat → Int32) × (Nat → Int32)} (hf : fX7_removeLast thr saved ms mpast = some res) : zMet l Δ yX7_removeLast cX7_removeLast 3 (some .int) 2 45 [.ref (ad 0)] (wX7 Δ ad thr saved mlen spot reads hash ms mpast mtext mread) (wX7 Δ ad res.2.1 res.2.2.1 mlen spot reads hash res.2.2.2.1 res.2.2.2.2 mtext mread) (some (.int res.1)) := by
  refine z_start (by decide +kernel) (Nat.le_of_ble_eq_true rfl) ?_
  intro p e s m args below meth c A ls X Z hl
  have hl : lv_has ls 3 [(0, .ref (ad 0))] := hl
  have L53 : ∀ (k : Nat) (thr : Int32) (saved : Int32) (ms : Nat → Int32) (mpast : Nat → Int32) (v1 : Int32) (v2 : Int32), fX7_removeLast_53 k thr saved ms mpast v1 v2 = some res → ∀ (H : Heap) (locs : List Loc) (ls : Array Slot), zW Δ A s.heap (wX7 Δ ad thr saved mlen spot reads hash ms mpast mtext mread) H locs → lv_has ls 3 [(0, .ref (ad 0)), (1, .int v1), (2, .int v2)] → W p l e { frames := 2, cells := 0, slots := 0, locals := 45 } s m args below meth c H locs 0 0 (zEnd Δ below args s 0 0 A (some (.int res.1)) (wX7 Δ ad res.2.1 res.2.2.1 mlen spot reads hash res.2.2.2.1 res.2.2.2.2 mtext mread)) (F0 m 53 ls []) := by
    intro k
    induction k with
    | zero =>
      intro thr saved ms mpast v1 v2 hf
      rw [fX7_removeLast_53.eq_1] at hf
      cases hf
    | succ k ih =>
      intro thr saved ms mpast v1 v2 hf H locs ls Z hl
      rw [fX7_removeLast_53.eq_2] at hf
      refine lv_iload_n X.x X.b dX7_removeLast_53 rfl (lv_at hl 2 rfl) ?_
      refine lv_bipush (v := 6) X.x X.b dX7_removeLast_54 kb_6 ?_
      refine lv_icmp_ge (tgt := 77) X.x X.b dX7_removeLast_56 (by decide) (fun b1 => ?_) (fun b1 => ?_)
      · have hf := zif_t b1 hf
        refine lv_iload_n X.x X.b dX7_removeLast_77 rfl (lv_at hl 1 rfl) ?_
        cases hf
        exact z_iret X Z dX7_removeLast_78
      · have hf := zif_f b1 hf
        refine lv_aload_n X.x X.b dX7_removeLast_59 rfl (lv_at hl 0 rfl) ?_
        refine lv_iload_n X.x X.b dX7_removeLast_60 rfl (lv_at hl 2 rfl) ?_
        refine lv_aload_n X.x X.b dX7_removeLast_61 rfl (lv_at hl 0 rfl) ?_
        refine z_gf inG_X7 (ci := 7) rfl 1 (Nat.le_of_ble_eq_true rfl) rfl X Z wd_823 0 rfl (v := .ref (ad 1)) rfl dX7_removeLast_62 ?_
        refine lv_iconst (v := 0) X.x X.b dX7_removeLast_65 ki_0 ?_
        refine z_iald X Z 1 rfl (zvin (by decide)) dX7_removeLast_66 ?_
        refine lv_iconst (v := 0) X.x X.b dX7_removeLast_67 ki_0 ?_
        obtain ⟨q1, hq1, hf⟩ := zb_ok hf
        refine z_callV X Z hl (mX7_learns l Δ ad thr saved mlen spot reads hash ms mpast mtext mread v2 (ms (0 : Int32).toNatClampNeg) 0 hq1) wd_884 wd_886 wd_21 wd_68 wd_887 ok_X7_learns 7 rfl 0 rfl (w' := (wX7 Δ ad thr saved mlen spot reads hash q1 mpast mtext mread)) su_16 fs_16 pu_16 rfl (rest := []) rfl (Nat.le_of_ble_eq_true rfl) ⟨Nat.le_of_ble_eq_true rfl, Nat.le_of_ble_eq_true rfl⟩ ⟨Nat.zero_le _, Nat.zero_le _⟩ (st1 := []) rfl dX7_removeLast_68 (fun H locs Z => ?_)
        refine lv_iinc (v := (v2 + 1)) (lv' := [(2, .int (v2 + 1)), (0, .ref (ad 0)), (1, .int v1)]) X.x X.b dX7_removeLast_71 hl (k := 2) rfl (congrArg _ ki_1) (Nat.le_of_ble_eq_true rfl) rfl (fun ls hl => ?_)
        refine lv_goto (tgt := 53) X.x X.b dX7_removeLast_74 (by decide) ?_
        exact ih thr saved q1 mpast v1 (v2 + 1) hf _ _ _ Z (lv_sub hl [1, 2, 0] rfl)
  rw [fX7_removeLast.eq_1] at hf
  refine lv_aload_n X.x X.b dX7_removeLast_0 rfl (lv_at hl 0 rfl) ?_
  refine lv_aload_n X.x X.b dX7_removeLast_1 rfl (lv_at hl 0 rfl) ?_
  refine z_gf inG_X7 (ci := 7) rfl 1 (Nat.le_of_ble_eq_true rfl) rfl X Z wd_823 0 rfl (v := .ref (ad 1)) rfl dX7_removeLast_2 ?_
  refine lv_iconst (v := 0) X.x X.b dX7_removeLast_5 ki_0 ?_
  refine z_iald X Z 1 rfl (zvin (by decide)) dX7_removeLast_6 ?_
  refine lv_if_ne (tgt := 14) X.x X.b dX7_removeLast_7 (by decide) (fun b1 => ?_) (fun b1 => ?_)
  · have hf := zif_f b1 hf
    refine lv_iconst (v := 0) X.x X.b dX7_removeLast_14 ki_0 ?_
    obtain ⟨q1, hq1, hf⟩ := zb_ok hf
    refine z_callV X Z hl (mX7_refuses l Δ ad thr saved mlen spot reads hash ms mpast mtext mread 0 hq1) wd_862 wd_864 wd_18 wd_68 wd_865 ok_X7_refuses 7 rfl 0 rfl (w' := (wX7 Δ ad q1.2 saved mlen spot reads hash ms mpast mtext mread)) su_16 fs_16 pu_16 rfl (rest := []) rfl (Nat.le_of_ble_eq_true rfl) ⟨Nat.le_of_ble_eq_true rfl, Nat.le_of_ble_eq_true rfl⟩ ⟨Nat.zero_le _, Nat.zero_le _⟩ (st1 := [.int q1.1]) rfl dX7_removeLast_15 (fun H locs Z => ?_)
    refine lv_if_eq (tgt := 23) X.x X.b dX7_removeLast_18 (by decide) (fun b2 => ?_) (fun b2 => ?_)
    · have hf := zif_t b2 hf
      refine lv_aload_n X.x X.b dX7_removeLast_23 rfl (lv_at hl 0 rfl) ?_
      obtain ⟨q2, hq2, hf⟩ := zb_ok hf
      refine z_callV X Z hl (mX7_saves l Δ ad q1.2 saved mlen spot reads hash ms mpast mtext mread hq2) wd_876 wd_878 wd_19 wd_68 wd_879 ok_X7_saves 7 rfl 0 rfl (w' := (wX7 Δ ad q1.2 q2.1 mlen spot reads hash ms q2.2 mtext mread)) su_16 fs_16 pu_16 rfl (rest := []) rfl (Nat.le_of_ble_eq_true rfl) ⟨Nat.le_of_ble_eq_true rfl, Nat.le_of_ble_eq_true rfl⟩ ⟨Nat.zero_le _, Nat.zero_le _⟩ (st1 := []) rfl dX7_removeLast_24 (fun H locs Z => ?_)
      refine lv_aload_n X.x X.b dX7_removeLast_27 rfl (lv_at hl 0 rfl) ?_
      refine z_gf inG_X7 (ci := 7) rfl 1 (Nat.le_of_ble_eq_true rfl) rfl X Z wd_823 0 rfl (v := .ref (ad 1)) rfl dX7_removeLast_28 ?_
      refine lv_iconst (v := 0) X.x X.b dX7_removeLast_31 ki_0 ?_
      refine lv_dup2_11 X.x X.b dX7_removeLast_32 rfl rfl ?_
      refine z_iald X Z 1 rfl (zvin (by decide)) dX7_removeLast_33 ?_
      refine lv_iconst (v := 1) X.x X.b dX7_removeLast_34 ki_1 ?_
      refine lv_isub X.x X.b dX7_removeLast_35 ?_
      refine z_iast (w' := (wX7 Δ ad q1.2 q2.1 mlen spot reads hash (upd ms (0 : Int32).toNatClampNeg ((ms (0 : Int32).toNatClampNeg) - 1)) q2.2 mtext mread)) X Z 1 rfl (zvin (by decide)) rfl dX7_removeLast_36 (fun H locs Z => ?_)
      refine lv_aload_n X.x X.b dX7_removeLast_37 rfl (lv_at hl 0 rfl) ?_
      refine lv_aload_n X.x X.b dX7_removeLast_38 rfl (lv_at hl 0 rfl) ?_
      refine z_gf inG_X7 (ci := 7) rfl 1 (Nat.le_of_ble_eq_true rfl) rfl X Z wd_823 0 rfl (v := .ref (ad 1)) rfl dX7_removeLast_39 ?_
      refine lv_iconst (v := 0) X.x X.b dX7_removeLast_42 ki_0 ?_
      refine z_iald X Z 1 rfl (zvin (by decide)) dX7_removeLast_43 ?_
      obtain ⟨q3, hq3, hf⟩ := zb_ok hf
      refine z_callV X Z hl (mX7_readersOf l Δ ad q1.2 q2.1 mlen spot reads hash (upd ms (0 : Int32).toNatClampNeg ((ms (0 : Int32).toNatClampNeg) - 1)) q2.2 mtext mread ((upd ms (0 : Int32).toNatClampNeg ((ms (0 : Int32).toNatClampNeg) - 1)) (0 : Int32).toNatClampNeg) hq3) wd_904 wd_906 wd_24 wd_68 wd_907 ok_X7_readersOf 7 rfl 0 rfl (w' := (wX7 Δ ad q1.2 q2.1 mlen spot reads hash (upd ms (0 : Int32).toNatClampNeg ((ms (0 : Int32).toNatClampNeg) - 1)) q2.2 mtext mread)) su_16 fs_16 pu_16 rfl (rest := []) rfl (Nat.le_of_ble_eq_true rfl) ⟨Nat.le_of_ble_eq_true rfl, Nat.le_of_ble_eq_true rfl⟩ ⟨Nat.zero_le _, Nat.zero_le _⟩ (st1 := [.int q3]) rfl dX7_removeLast_44 (fun H locs Z => ?_)
      obtain ⟨q4, hq4, hf⟩ := zb_ok hf
      refine z_callS X Z hl (mX7_ones l Δ  q3 hq4) wd_912 wd_913 wd_68 wd_914 ok_X7_ones (w' := (wX7 Δ ad q1.2 q2.1 mlen spot reads hash (upd ms (0 : Int32).toNatClampNeg ((ms (0 : Int32).toNatClampNeg) - 1)) q2.2 mtext mread)) zSub_nil rfl zput_nil rfl (rest := []) rfl (Nat.le_of_ble_eq_true rfl) ⟨Nat.le_of_ble_eq_true rfl, Nat.le_of_ble_eq_true rfl⟩ ⟨Nat.zero_le _, Nat.zero_le _⟩ (st1 := [.int q4]) rfl dX7_removeLast_47 (fun H locs Z => ?_)
      refine lv_istore_n (lv' := [(1, .int q4), (0, .ref (ad 0))]) X.x X.b dX7_removeLast_50 rfl hl (Nat.le_of_ble_eq_true rfl) rfl (fun ls hl => ?_)
      refine lv_iconst (v := 0) X.x X.b dX7_removeLast_51 ki_0 ?_
      refine lv_istore_n (lv' := [(2, .int 0), (1, .int q4), (0, .ref (ad 0))]) X.x X.b dX7_removeLast_52 rfl hl (Nat.le_of_ble_eq_true rfl) rfl (fun ls hl => ?_)
      exact L53 zfuel q1.2 q2.1 (upd ms (0 : Int32).toNatClampNeg ((ms (0 : Int32).toNatClampNeg) - 1)) q2.2 q4 0 hf _ _ _ Z (lv_sub hl [2, 1, 0] rfl)
    · have hf := zif_f b2 hf
      refine lv_iconst (v := 0) X.x X.b dX7_removeLast_21 ki_0 ?_
      cases hf
      exact z_iret X Z dX7_removeLast_22
  · have hf := zif_t b1 hf
    refine lv_iconst (v := 1) X.x X.b dX7_removeLast_10 ki_1 ?_
    refine lv_goto (tgt := 15) X.x X.b dX7_removeLast_11 (by decide) ?_
    obtain ⟨q5, hq5, hf⟩ := zb_ok hf
    refine z_callV X Z hl (mX7_refuses l Δ ad thr saved mlen spot reads hash ms mpast mtext mread 1 hq5) wd_862 wd_864 wd_18 wd_68 wd_865 ok_X7_refuses 7 rfl 0 rfl (w' := (wX7 Δ ad q5.2 saved mlen spot reads hash ms mpast mtext mread)) su_16 fs_16 pu_16 rfl (rest := []) rfl (Nat.le_of_ble_eq_true rfl) ⟨Nat.le_of_ble_eq_true rfl, Nat.le_of_ble_eq_true rfl⟩ ⟨Nat.zero_le _, Nat.zero_le _⟩ (st1 := [.int q5.1]) rfl dX7_removeLast_15 (fun H locs Z => ?_)
    refine lv_if_eq (tgt := 23) X.x X.b dX7_removeLast_18 (by decide) (fun b3 => ?_) (fun b3 => ?_)
    · have hf := zif_t b3 hf
      refine lv_aload_n X.x X.b dX7_removeLast_23 rfl (lv_at hl 0 rfl) ?_
      obtain ⟨q6, hq6, hf⟩ := zb_ok hf
      refine z_callV X Z hl (mX7_saves l Δ ad q5.2 saved mlen spot reads hash ms mpast mtext mread hq6) wd_876 wd_878 wd_19 wd_68 wd_879 ok_X7_saves 7 rfl 0 rfl (w' := (wX7 Δ ad q5.2 q6.1 mlen spot reads hash ms q6.2 mtext mread)) su_16 fs_16 pu_16 rfl (rest := []) rfl (Nat.le_of_ble_eq_true rfl) ⟨Nat.le_of_ble_eq_true rfl, Nat.le_of_ble_eq_true rfl⟩ ⟨Nat.zero_le _, Nat.zero_le _⟩ (st1 := []) rfl dX7_removeLast_24 (fun H locs Z => ?_)
      refine lv_aload_n X.x X.b dX7_removeLast_27 rfl (lv_at hl 0 rfl) ?_
      refine z_gf inG_X7 (ci := 7) rfl 1 (Nat.le_of_ble_eq_true rfl) rfl X Z wd_823 0 rfl (v := .ref (ad 1)) rfl dX7_removeLast_28 ?_
      refine lv_iconst (v := 0) X.x X.b dX7_removeLast_31 ki_0 ?_
      refine lv_dup2_11 X.x X.b dX7_removeLast_32 rfl rfl ?_
      refine z_iald X Z 1 rfl (zvin (by decide)) dX7_removeLast_33 ?_
      refine lv_iconst (v := 1) X.x X.b dX7_removeLast_34 ki_1 ?_
      refine lv_isub X.x X.b dX7_removeLast_35 ?_
      refine z_iast (w' := (wX7 Δ ad q5.2 q6.1 mlen spot reads hash (upd ms (0 : Int32).toNatClampNeg ((ms (0 : Int32).toNatClampNeg) - 1)) q6.2 mtext mread)) X Z 1 rfl (zvin (by decide)) rfl dX7_removeLast_36 (fun H locs Z => ?_)
      refine lv_aload_n X.x X.b dX7_removeLast_37 rfl (lv_at hl 0 rfl) ?_
      refine lv_aload_n X.x X.b dX7_removeLast_38 rfl (lv_at hl 0 rfl) ?_
      refine z_gf inG_X7 (ci := 7) rfl 1 (Nat.le_of_ble_eq_true rfl) rfl X Z wd_823 0 rfl (v := .ref (ad 1)) rfl dX7_removeLast_39 ?_
      refine lv_iconst (v := 0) X.x X.b dX7_removeLast_42 ki_0 ?_
      refine z_iald X Z 1 rfl (zvin (by decide)) dX7_removeLast_43 ?_
      obtain ⟨q7, hq7, hf⟩ := zb_ok hf
      refine z_callV X Z hl (mX7_readersOf l Δ ad q5.2 q6.1 mlen spot reads hash (upd ms (0 : Int32).toNatClampNeg ((ms (0 : Int32).toNatClampNeg) - 1)) q6.2 mtext mread ((upd ms (0 : Int32).toNatClampNeg ((ms (0 : Int32).toNatClampNeg) - 1)) (0 : Int32).toNatClampNeg) hq7) wd_904 wd_906 wd_24 wd_68 wd_907 ok_X7_readersOf 7 rfl 0 rfl (w' := (wX7 Δ ad q5.2 q6.1 mlen spot reads hash (upd ms (0 : Int32).toNatClampNeg ((ms (0 : Int32).toNatClampNeg) - 1)) q6.2 mtext mread)) su_16 fs_16 pu_16 rfl (rest := []) rfl (Nat.le_of_ble_eq_true rfl) ⟨Nat.le_of_ble_eq_true rfl, Nat.le_of_ble_eq_true rfl⟩ ⟨Nat.zero_le _, Nat.zero_le _⟩ (st1 := [.int q7]) rfl dX7_removeLast_44 (fun H locs Z => ?_)
      obtain ⟨q8, hq8, hf⟩ := zb_ok hf
      refine z_callS X Z hl (mX7_ones l Δ  q7 hq8) wd_912 wd_913 wd_68 wd_914 ok_X7_ones (w' := (wX7 Δ ad q5.2 q6.1 mlen spot reads hash (upd ms (0 : Int32).toNatClampNeg ((ms (0 : Int32).toNatClampNeg) - 1)) q6.2 mtext mread)) zSub_nil rfl zput_nil rfl (rest := []) rfl (Nat.le_of_ble_eq_true rfl) ⟨Nat.le_of_ble_eq_true rfl, Nat.le_of_ble_eq_true rfl⟩ ⟨Nat.zero_le _, Nat.zero_le _⟩ (st1 := [.int q8]) rfl dX7_removeLast_47 (fun H locs Z => ?_)
      refine lv_istore_n (lv' := [(1, .int q8), (0, .ref (ad 0))]) X.x X.b dX7_removeLast_50 rfl hl (Nat.le_of_ble_eq_true rfl) rfl (fun ls hl => ?_)
      refine lv_iconst (v := 0) X.x X.b dX7_removeLast_51 ki_0 ?_
      refine lv_istore_n (lv' := [(2, .int 0), (1, .int q8), (0, .ref (ad 0))]) X.x X.b dX7_removeLast_52 rfl hl (Nat.le_of_ble_eq_true rfl) rfl (fun ls hl => ?_)
      exact L53 zfuel q5.2 q6.1 (upd ms (0 : Int32).toNatClampNeg ((ms (0 : Int32).toNatClampNeg) - 1)) q6.2 q8 0 hf _ _ _ Z (lv_sub hl [2, 1, 0] rfl)
    · have hf := zif_f b3 hf
      refine lv_iconst (v := 0) X.x X.b dX7_removeLast_21 ki_0 ?_
      cases hf
      exact z_iret X Z dX7_removeLast_22
set_option maxRecDepth 100000 in
set_option maxHeartbeats 4000000 in
theorem mX7_set (l : Launch) (Δ : zE) (ad : Nat → Nat) (thr : Int32) (saved : Int32) (mlen : Int32) (spot : Int32) (reads : Int32) (hash : Int64) (ms : Nat → Int32) (mpast : Nat → Int32) (mtext : Nat → Int32) (mread : Nat → Int32) (x1 : Int32) (x2 : Int32) {res : Int32 × Int32 × Int32 × (Nat → Int32) × (Nat → Int32)} (hf : fX7_set thr saved ms mpast x1 x2 = some res) : zMet l Δ yX7_set cX7_set 4 (some .int) 1 22 [.ref (ad 0), .int x1, .int x2] (wX7 Δ ad thr saved mlen spot reads hash ms mpast mtext mread) (wX7 Δ ad res.2.1 res.2.2.1 mlen spot reads hash res.2.2.2.1 res.2.2.2.2 mtext mread) (some (.int res.1)) := by
  refine z_start (by decide +kernel) (Nat.le_of_ble_eq_true rfl) ?_
  intro p e s m args below meth c A ls X Z hl
  have hl : lv_has ls 4 [(0, .ref (ad 0)), (1, .int x1), (2, .int x2)] := hl
  rw [fX7_set.eq_1] at hf
  refine lv_aload_n X.x X.b dX7_set_0 rfl (lv_at hl 0 rfl) ?_
  refine lv_iload_n X.x X.b dX7_set_1 rfl (lv_at hl 1 rfl) ?_
  refine lv_iconst (v := 0) X.x X.b dX7_set_2 ki_0 ?_
  refine lv_iconst (v := 1) X.x X.b dX7_set_3 ki_1 ?_
  obtain ⟨q1, hq1, hf⟩ := zb_ok hf
  refine z_callS X Z hl (mX7_in l Δ  x1 0 1 hq1) wd_870 wd_871 wd_68 wd_872 ok_X7_in (w' := (wX7 Δ ad thr saved mlen spot reads hash ms mpast mtext mread)) zSub_nil rfl zput_nil rfl (rest := [.ref (ad 0)]) rfl (Nat.le_of_ble_eq_true rfl) ⟨Nat.le_of_ble_eq_true rfl, Nat.le_of_ble_eq_true rfl⟩ ⟨Nat.zero_le _, Nat.zero_le _⟩ (st1 := [.int q1, .ref (ad 0)]) rfl dX7_set_4 (fun H locs Z => ?_)
  refine lv_if_ne (tgt := 14) X.x X.b dX7_set_7 (by decide) (fun b1 => ?_) (fun b1 => ?_)
  · have hf := zif_f b1 hf
    refine lv_iload_n X.x X.b dX7_set_14 rfl (lv_at hl 2 rfl) ?_
    refine lv_iload_n X.x X.b dX7_set_15 rfl (lv_at hl 1 rfl) ?_
    refine lv_iload_n X.x X.b dX7_set_16 rfl (lv_at hl 1 rfl) ?_
    refine lv_if_ne (tgt := 25) X.x X.b dX7_set_17 (by decide) (fun b2 => ?_) (fun b2 => ?_)
    · have hf := zif_f b2 hf
      refine lv_bipush (v := 20) X.x X.b dX7_set_25 kb_20 ?_
      obtain ⟨q2, hq2, hf⟩ := zb_ok hf
      refine z_callS X Z hl (mX7_in l Δ  x2 x1 20 hq2) wd_870 wd_871 wd_68 wd_872 ok_X7_in (w' := (wX7 Δ ad thr saved mlen spot reads hash ms mpast mtext mread)) zSub_nil rfl zput_nil rfl (rest := [.ref (ad 0)]) rfl (Nat.le_of_ble_eq_true rfl) ⟨Nat.le_of_ble_eq_true rfl, Nat.le_of_ble_eq_true rfl⟩ ⟨Nat.zero_le _, Nat.zero_le _⟩ (st1 := [.int q2, .ref (ad 0)]) rfl dX7_set_27 (fun H locs Z => ?_)
      refine lv_if_ne (tgt := 37) X.x X.b dX7_set_30 (by decide) (fun b3 => ?_) (fun b3 => ?_)
      · have hf := zif_f b3 hf
        refine lv_iconst (v := 0) X.x X.b dX7_set_37 ki_0 ?_
        obtain ⟨q3, hq3, hf⟩ := zb_ok hf
        refine z_callV X Z hl (mX7_refuses l Δ ad thr saved mlen spot reads hash ms mpast mtext mread 0 hq3) wd_862 wd_864 wd_18 wd_68 wd_865 ok_X7_refuses 7 rfl 0 rfl (w' := (wX7 Δ ad q3.2 saved mlen spot reads hash ms mpast mtext mread)) su_16 fs_16 pu_16 rfl (rest := []) rfl (Nat.le_of_ble_eq_true rfl) ⟨Nat.le_of_ble_eq_true rfl, Nat.le_of_ble_eq_true rfl⟩ ⟨Nat.zero_le _, Nat.zero_le _⟩ (st1 := [.int q3.1]) rfl dX7_set_38 (fun H locs Z => ?_)
        refine lv_if_eq (tgt := 46) X.x X.b dX7_set_41 (by decide) (fun b4 => ?_) (fun b4 => ?_)
        · have hf := zif_t b4 hf
          refine lv_aload_n X.x X.b dX7_set_46 rfl (lv_at hl 0 rfl) ?_
          obtain ⟨q4, hq4, hf⟩ := zb_ok hf
          refine z_callV X Z hl (mX7_saves l Δ ad q3.2 saved mlen spot reads hash ms mpast mtext mread hq4) wd_876 wd_878 wd_19 wd_68 wd_879 ok_X7_saves 7 rfl 0 rfl (w' := (wX7 Δ ad q3.2 q4.1 mlen spot reads hash ms q4.2 mtext mread)) su_16 fs_16 pu_16 rfl (rest := []) rfl (Nat.le_of_ble_eq_true rfl) ⟨Nat.le_of_ble_eq_true rfl, Nat.le_of_ble_eq_true rfl⟩ ⟨Nat.zero_le _, Nat.zero_le _⟩ (st1 := []) rfl dX7_set_47 (fun H locs Z => ?_)
          refine lv_aload_n X.x X.b dX7_set_50 rfl (lv_at hl 0 rfl) ?_
          refine z_gf inG_X7 (ci := 7) rfl 1 (Nat.le_of_ble_eq_true rfl) rfl X Z wd_823 0 rfl (v := .ref (ad 1)) rfl dX7_set_51 ?_
          refine lv_iconst (v := 1) X.x X.b dX7_set_54 ki_1 ?_
          refine lv_iload_n X.x X.b dX7_set_55 rfl (lv_at hl 1 rfl) ?_
          refine lv_iadd X.x X.b dX7_set_56 ?_
          obtain ⟨b5, hf⟩ := zg_in hf
          refine z_iald X Z 1 rfl b5 dX7_set_57 ?_
          refine lv_istore_n (lv' := [(3, .int (ms (1 + x1).toNatClampNeg)), (0, .ref (ad 0)), (1, .int x1), (2, .int x2)]) X.x X.b dX7_set_58 rfl hl (Nat.le_of_ble_eq_true rfl) rfl (fun ls hl => ?_)
          refine lv_aload_n X.x X.b dX7_set_59 rfl (lv_at hl 1 rfl) ?_
          refine z_gf inG_X7 (ci := 7) rfl 1 (Nat.le_of_ble_eq_true rfl) rfl X Z wd_823 0 rfl (v := .ref (ad 1)) rfl dX7_set_60 ?_
          refine lv_iconst (v := 1) X.x X.b dX7_set_63 ki_1 ?_
          refine lv_iload_n X.x X.b dX7_set_64 rfl (lv_at hl 2 rfl) ?_
          refine lv_iadd X.x X.b dX7_set_65 ?_
          refine lv_iload_n X.x X.b dX7_set_66 rfl (lv_at hl 3 rfl) ?_
          obtain ⟨b6, hf⟩ := zg_in hf
          refine z_iast (w' := (wX7 Δ ad q3.2 q4.1 mlen spot reads hash (upd ms (1 + x1).toNatClampNeg x2) q4.2 mtext mread)) X Z 1 rfl b6 rfl dX7_set_67 (fun H locs Z => ?_)
          refine lv_iload_n X.x X.b dX7_set_68 rfl (lv_at hl 0 rfl) ?_
          cases hf
          exact z_iret X Z dX7_set_69
        · have hf := zif_f b4 hf
          refine lv_iconst (v := 0) X.x X.b dX7_set_44 ki_0 ?_
          cases hf
          exact z_iret X Z dX7_set_45
      · have hf := zif_t b3 hf
        refine lv_iconst (v := 2) X.x X.b dX7_set_33 ki_2 ?_
        refine lv_goto (tgt := 38) X.x X.b dX7_set_34 (by decide) ?_
        obtain ⟨q5, hq5, hf⟩ := zb_ok hf
        refine z_callV X Z hl (mX7_refuses l Δ ad thr saved mlen spot reads hash ms mpast mtext mread 2 hq5) wd_862 wd_864 wd_18 wd_68 wd_865 ok_X7_refuses 7 rfl 0 rfl (w' := (wX7 Δ ad q5.2 saved mlen spot reads hash ms mpast mtext mread)) su_16 fs_16 pu_16 rfl (rest := []) rfl (Nat.le_of_ble_eq_true rfl) ⟨Nat.le_of_ble_eq_true rfl, Nat.le_of_ble_eq_true rfl⟩ ⟨Nat.zero_le _, Nat.zero_le _⟩ (st1 := [.int q5.1]) rfl dX7_set_38 (fun H locs Z => ?_)
        refine lv_if_eq (tgt := 46) X.x X.b dX7_set_41 (by decide) (fun b7 => ?_) (fun b7 => ?_)
        · have hf := zif_t b7 hf
          refine lv_aload_n X.x X.b dX7_set_46 rfl (lv_at hl 0 rfl) ?_
          obtain ⟨q6, hq6, hf⟩ := zb_ok hf
          refine z_callV X Z hl (mX7_saves l Δ ad q5.2 saved mlen spot reads hash ms mpast mtext mread hq6) wd_876 wd_878 wd_19 wd_68 wd_879 ok_X7_saves 7 rfl 0 rfl (w' := (wX7 Δ ad q5.2 q6.1 mlen spot reads hash ms q6.2 mtext mread)) su_16 fs_16 pu_16 rfl (rest := []) rfl (Nat.le_of_ble_eq_true rfl) ⟨Nat.le_of_ble_eq_true rfl, Nat.le_of_ble_eq_true rfl⟩ ⟨Nat.zero_le _, Nat.zero_le _⟩ (st1 := []) rfl dX7_set_47 (fun H locs Z => ?_)
          refine lv_aload_n X.x X.b dX7_set_50 rfl (lv_at hl 0 rfl) ?_
          refine z_gf inG_X7 (ci := 7) rfl 1 (Nat.le_of_ble_eq_true rfl) rfl X Z wd_823 0 rfl (v := .ref (ad 1)) rfl dX7_set_51 ?_
          refine lv_iconst (v := 1) X.x X.b dX7_set_54 ki_1 ?_
          refine lv_iload_n X.x X.b dX7_set_55 rfl (lv_at hl 1 rfl) ?_
          refine lv_iadd X.x X.b dX7_set_56 ?_
          obtain ⟨b8, hf⟩ := zg_in hf
          refine z_iald X Z 1 rfl b8 dX7_set_57 ?_
          refine lv_istore_n (lv' := [(3, .int (ms (1 + x1).toNatClampNeg)), (0, .ref (ad 0)), (1, .int x1), (2, .int x2)]) X.x X.b dX7_set_58 rfl hl (Nat.le_of_ble_eq_true rfl) rfl (fun ls hl => ?_)
          refine lv_aload_n X.x X.b dX7_set_59 rfl (lv_at hl 1 rfl) ?_
          refine z_gf inG_X7 (ci := 7) rfl 1 (Nat.le_of_ble_eq_true rfl) rfl X Z wd_823 0 rfl (v := .ref (ad 1)) rfl dX7_set_60 ?_
          refine lv_iconst (v := 1) X.x X.b dX7_set_63 ki_1 ?_
          refine lv_iload_n X.x X.b dX7_set_64 rfl (lv_at hl 2 rfl) ?_
          refine lv_iadd X.x X.b dX7_set_65 ?_
          refine lv_iload_n X.x X.b dX7_set_66 rfl (lv_at hl 3 rfl) ?_
          obtain ⟨b9, hf⟩ := zg_in hf
          refine z_iast (w' := (wX7 Δ ad q5.2 q6.1 mlen spot reads hash (upd ms (1 + x1).toNatClampNeg x2) q6.2 mtext mread)) X Z 1 rfl b9 rfl dX7_set_67 (fun H locs Z => ?_)
          refine lv_iload_n X.x X.b dX7_set_68 rfl (lv_at hl 0 rfl) ?_
          cases hf
          exact z_iret X Z dX7_set_69
        · have hf := zif_f b7 hf
          refine lv_iconst (v := 0) X.x X.b dX7_set_44 ki_0 ?_
          cases hf
          exact z_iret X Z dX7_set_45
    · have hf := zif_t b2 hf
      refine lv_bipush (v := 19) X.x X.b dX7_set_20 kb_19 ?_
      refine lv_goto (tgt := 27) X.x X.b dX7_set_22 (by decide) ?_
      obtain ⟨q7, hq7, hf⟩ := zb_ok hf
      refine z_callS X Z hl (mX7_in l Δ  x2 x1 19 hq7) wd_870 wd_871 wd_68 wd_872 ok_X7_in (w' := (wX7 Δ ad thr saved mlen spot reads hash ms mpast mtext mread)) zSub_nil rfl zput_nil rfl (rest := [.ref (ad 0)]) rfl (Nat.le_of_ble_eq_true rfl) ⟨Nat.le_of_ble_eq_true rfl, Nat.le_of_ble_eq_true rfl⟩ ⟨Nat.zero_le _, Nat.zero_le _⟩ (st1 := [.int q7, .ref (ad 0)]) rfl dX7_set_27 (fun H locs Z => ?_)
      refine lv_if_ne (tgt := 37) X.x X.b dX7_set_30 (by decide) (fun b10 => ?_) (fun b10 => ?_)
      · have hf := zif_f b10 hf
        refine lv_iconst (v := 0) X.x X.b dX7_set_37 ki_0 ?_
        obtain ⟨q8, hq8, hf⟩ := zb_ok hf
        refine z_callV X Z hl (mX7_refuses l Δ ad thr saved mlen spot reads hash ms mpast mtext mread 0 hq8) wd_862 wd_864 wd_18 wd_68 wd_865 ok_X7_refuses 7 rfl 0 rfl (w' := (wX7 Δ ad q8.2 saved mlen spot reads hash ms mpast mtext mread)) su_16 fs_16 pu_16 rfl (rest := []) rfl (Nat.le_of_ble_eq_true rfl) ⟨Nat.le_of_ble_eq_true rfl, Nat.le_of_ble_eq_true rfl⟩ ⟨Nat.zero_le _, Nat.zero_le _⟩ (st1 := [.int q8.1]) rfl dX7_set_38 (fun H locs Z => ?_)
        refine lv_if_eq (tgt := 46) X.x X.b dX7_set_41 (by decide) (fun b11 => ?_) (fun b11 => ?_)
        · have hf := zif_t b11 hf
          refine lv_aload_n X.x X.b dX7_set_46 rfl (lv_at hl 0 rfl) ?_
          obtain ⟨q9, hq9, hf⟩ := zb_ok hf
          refine z_callV X Z hl (mX7_saves l Δ ad q8.2 saved mlen spot reads hash ms mpast mtext mread hq9) wd_876 wd_878 wd_19 wd_68 wd_879 ok_X7_saves 7 rfl 0 rfl (w' := (wX7 Δ ad q8.2 q9.1 mlen spot reads hash ms q9.2 mtext mread)) su_16 fs_16 pu_16 rfl (rest := []) rfl (Nat.le_of_ble_eq_true rfl) ⟨Nat.le_of_ble_eq_true rfl, Nat.le_of_ble_eq_true rfl⟩ ⟨Nat.zero_le _, Nat.zero_le _⟩ (st1 := []) rfl dX7_set_47 (fun H locs Z => ?_)
          refine lv_aload_n X.x X.b dX7_set_50 rfl (lv_at hl 0 rfl) ?_
          refine z_gf inG_X7 (ci := 7) rfl 1 (Nat.le_of_ble_eq_true rfl) rfl X Z wd_823 0 rfl (v := .ref (ad 1)) rfl dX7_set_51 ?_
          refine lv_iconst (v := 1) X.x X.b dX7_set_54 ki_1 ?_
          refine lv_iload_n X.x X.b dX7_set_55 rfl (lv_at hl 1 rfl) ?_
          refine lv_iadd X.x X.b dX7_set_56 ?_
          obtain ⟨b12, hf⟩ := zg_in hf
          refine z_iald X Z 1 rfl b12 dX7_set_57 ?_
          refine lv_istore_n (lv' := [(3, .int (ms (1 + x1).toNatClampNeg)), (0, .ref (ad 0)), (1, .int x1), (2, .int x2)]) X.x X.b dX7_set_58 rfl hl (Nat.le_of_ble_eq_true rfl) rfl (fun ls hl => ?_)
          refine lv_aload_n X.x X.b dX7_set_59 rfl (lv_at hl 1 rfl) ?_
          refine z_gf inG_X7 (ci := 7) rfl 1 (Nat.le_of_ble_eq_true rfl) rfl X Z wd_823 0 rfl (v := .ref (ad 1)) rfl dX7_set_60 ?_
          refine lv_iconst (v := 1) X.x X.b dX7_set_63 ki_1 ?_
          refine lv_iload_n X.x X.b dX7_set_64 rfl (lv_at hl 2 rfl) ?_
          refine lv_iadd X.x X.b dX7_set_65 ?_
          refine lv_iload_n X.x X.b dX7_set_66 rfl (lv_at hl 3 rfl) ?_
          obtain ⟨b13, hf⟩ := zg_in hf
          refine z_iast (w' := (wX7 Δ ad q8.2 q9.1 mlen spot reads hash (upd ms (1 + x1).toNatClampNeg x2) q9.2 mtext mread)) X Z 1 rfl b13 rfl dX7_set_67 (fun H locs Z => ?_)
          refine lv_iload_n X.x X.b dX7_set_68 rfl (lv_at hl 0 rfl) ?_
          cases hf
          exact z_iret X Z dX7_set_69
        · have hf := zif_f b11 hf
          refine lv_iconst (v := 0) X.x X.b dX7_set_44 ki_0 ?_
          cases hf
          exact z_iret X Z dX7_set_45
      · have hf := zif_t b10 hf
        refine lv_iconst (v := 2) X.x X.b dX7_set_33 ki_2 ?_
        refine lv_goto (tgt := 38) X.x X.b dX7_set_34 (by decide) ?_
        obtain ⟨q10, hq10, hf⟩ := zb_ok hf
        refine z_callV X Z hl (mX7_refuses l Δ ad thr saved mlen spot reads hash ms mpast mtext mread 2 hq10) wd_862 wd_864 wd_18 wd_68 wd_865 ok_X7_refuses 7 rfl 0 rfl (w' := (wX7 Δ ad q10.2 saved mlen spot reads hash ms mpast mtext mread)) su_16 fs_16 pu_16 rfl (rest := []) rfl (Nat.le_of_ble_eq_true rfl) ⟨Nat.le_of_ble_eq_true rfl, Nat.le_of_ble_eq_true rfl⟩ ⟨Nat.zero_le _, Nat.zero_le _⟩ (st1 := [.int q10.1]) rfl dX7_set_38 (fun H locs Z => ?_)
        refine lv_if_eq (tgt := 46) X.x X.b dX7_set_41 (by decide) (fun b14 => ?_) (fun b14 => ?_)
        · have hf := zif_t b14 hf
          refine lv_aload_n X.x X.b dX7_set_46 rfl (lv_at hl 0 rfl) ?_
          obtain ⟨q11, hq11, hf⟩ := zb_ok hf
          refine z_callV X Z hl (mX7_saves l Δ ad q10.2 saved mlen spot reads hash ms mpast mtext mread hq11) wd_876 wd_878 wd_19 wd_68 wd_879 ok_X7_saves 7 rfl 0 rfl (w' := (wX7 Δ ad q10.2 q11.1 mlen spot reads hash ms q11.2 mtext mread)) su_16 fs_16 pu_16 rfl (rest := []) rfl (Nat.le_of_ble_eq_true rfl) ⟨Nat.le_of_ble_eq_true rfl, Nat.le_of_ble_eq_true rfl⟩ ⟨Nat.zero_le _, Nat.zero_le _⟩ (st1 := []) rfl dX7_set_47 (fun H locs Z => ?_)
          refine lv_aload_n X.x X.b dX7_set_50 rfl (lv_at hl 0 rfl) ?_
          refine z_gf inG_X7 (ci := 7) rfl 1 (Nat.le_of_ble_eq_true rfl) rfl X Z wd_823 0 rfl (v := .ref (ad 1)) rfl dX7_set_51 ?_
          refine lv_iconst (v := 1) X.x X.b dX7_set_54 ki_1 ?_
          refine lv_iload_n X.x X.b dX7_set_55 rfl (lv_at hl 1 rfl) ?_
          refine lv_iadd X.x X.b dX7_set_56 ?_
          obtain ⟨b15, hf⟩ := zg_in hf
          refine z_iald X Z 1 rfl b15 dX7_set_57 ?_
          refine lv_istore_n (lv' := [(3, .int (ms (1 + x1).toNatClampNeg)), (0, .ref (ad 0)), (1, .int x1), (2, .int x2)]) X.x X.b dX7_set_58 rfl hl (Nat.le_of_ble_eq_true rfl) rfl (fun ls hl => ?_)
          refine lv_aload_n X.x X.b dX7_set_59 rfl (lv_at hl 1 rfl) ?_
          refine z_gf inG_X7 (ci := 7) rfl 1 (Nat.le_of_ble_eq_true rfl) rfl X Z wd_823 0 rfl (v := .ref (ad 1)) rfl dX7_set_60 ?_
          refine lv_iconst (v := 1) X.x X.b dX7_set_63 ki_1 ?_
          refine lv_iload_n X.x X.b dX7_set_64 rfl (lv_at hl 2 rfl) ?_
          refine lv_iadd X.x X.b dX7_set_65 ?_
          refine lv_iload_n X.x X.b dX7_set_66 rfl (lv_at hl 3 rfl) ?_
          obtain ⟨b16, hf⟩ := zg_in hf
          refine z_iast (w' := (wX7 Δ ad q10.2 q11.1 mlen spot reads hash (upd ms (1 + x1).toNatClampNeg x2) q11.2 mtext mread)) X Z 1 rfl b16 rfl dX7_set_67 (fun H locs Z => ?_)
          refine lv_iload_n X.x X.b dX7_set_68 rfl (lv_at hl 0 rfl) ?_
          cases hf
          exact z_iret X Z dX7_set_69
        · have hf := zif_f b14 hf
          refine lv_iconst (v := 0) X.x X.b dX7_set_44 ki_0 ?_
          cases hf
          exact z_iret X Z dX7_set_45
  · have hf := zif_t b1 hf
    refine lv_iconst (v := 1) X.x X.b dX7_set_10 ki_1 ?_
    refine lv_goto (tgt := 38) X.x X.b dX7_set_11 (by decide) ?_
    obtain ⟨q12, hq12, hf⟩ := zb_ok hf
    refine z_callV X Z hl (mX7_refuses l Δ ad thr saved mlen spot reads hash ms mpast mtext mread 1 hq12) wd_862 wd_864 wd_18 wd_68 wd_865 ok_X7_refuses 7 rfl 0 rfl (w' := (wX7 Δ ad q12.2 saved mlen spot reads hash ms mpast mtext mread)) su_16 fs_16 pu_16 rfl (rest := []) rfl (Nat.le_of_ble_eq_true rfl) ⟨Nat.le_of_ble_eq_true rfl, Nat.le_of_ble_eq_true rfl⟩ ⟨Nat.zero_le _, Nat.zero_le _⟩ (st1 := [.int q12.1]) rfl dX7_set_38 (fun H locs Z => ?_)
    refine lv_if_eq (tgt := 46) X.x X.b dX7_set_41 (by decide) (fun b17 => ?_) (fun b17 => ?_)
    · have hf := zif_t b17 hf
      refine lv_aload_n X.x X.b dX7_set_46 rfl (lv_at hl 0 rfl) ?_
      obtain ⟨q13, hq13, hf⟩ := zb_ok hf
      refine z_callV X Z hl (mX7_saves l Δ ad q12.2 saved mlen spot reads hash ms mpast mtext mread hq13) wd_876 wd_878 wd_19 wd_68 wd_879 ok_X7_saves 7 rfl 0 rfl (w' := (wX7 Δ ad q12.2 q13.1 mlen spot reads hash ms q13.2 mtext mread)) su_16 fs_16 pu_16 rfl (rest := []) rfl (Nat.le_of_ble_eq_true rfl) ⟨Nat.le_of_ble_eq_true rfl, Nat.le_of_ble_eq_true rfl⟩ ⟨Nat.zero_le _, Nat.zero_le _⟩ (st1 := []) rfl dX7_set_47 (fun H locs Z => ?_)
      refine lv_aload_n X.x X.b dX7_set_50 rfl (lv_at hl 0 rfl) ?_
      refine z_gf inG_X7 (ci := 7) rfl 1 (Nat.le_of_ble_eq_true rfl) rfl X Z wd_823 0 rfl (v := .ref (ad 1)) rfl dX7_set_51 ?_
      refine lv_iconst (v := 1) X.x X.b dX7_set_54 ki_1 ?_
      refine lv_iload_n X.x X.b dX7_set_55 rfl (lv_at hl 1 rfl) ?_
      refine lv_iadd X.x X.b dX7_set_56 ?_
      obtain ⟨b18, hf⟩ := zg_in hf
      refine z_iald X Z 1 rfl b18 dX7_set_57 ?_
      refine lv_istore_n (lv' := [(3, .int (ms (1 + x1).toNatClampNeg)), (0, .ref (ad 0)), (1, .int x1), (2, .int x2)]) X.x X.b dX7_set_58 rfl hl (Nat.le_of_ble_eq_true rfl) rfl (fun ls hl => ?_)
      refine lv_aload_n X.x X.b dX7_set_59 rfl (lv_at hl 1 rfl) ?_
      refine z_gf inG_X7 (ci := 7) rfl 1 (Nat.le_of_ble_eq_true rfl) rfl X Z wd_823 0 rfl (v := .ref (ad 1)) rfl dX7_set_60 ?_
      refine lv_iconst (v := 1) X.x X.b dX7_set_63 ki_1 ?_
      refine lv_iload_n X.x X.b dX7_set_64 rfl (lv_at hl 2 rfl) ?_
      refine lv_iadd X.x X.b dX7_set_65 ?_
      refine lv_iload_n X.x X.b dX7_set_66 rfl (lv_at hl 3 rfl) ?_
      obtain ⟨b19, hf⟩ := zg_in hf
      refine z_iast (w' := (wX7 Δ ad q12.2 q13.1 mlen spot reads hash (upd ms (1 + x1).toNatClampNeg x2) q13.2 mtext mread)) X Z 1 rfl b19 rfl dX7_set_67 (fun H locs Z => ?_)
      refine lv_iload_n X.x X.b dX7_set_68 rfl (lv_at hl 0 rfl) ?_
      cases hf
      exact z_iret X Z dX7_set_69
    · have hf := zif_f b17 hf
      refine lv_iconst (v := 0) X.x X.b dX7_set_44 ki_0 ?_
      cases hf
      exact z_iret X Z dX7_set_45
set_option maxRecDepth 100000 in
set_option maxHeartbeats 4000000 in
theorem mX7_reaches (l : Launch) (Δ : zE) (ad : Nat → Nat) (thr : Int32) (saved : Int32) (mlen : Int32) (spot : Int32) (reads : Int32) (hash : Int64) (ms : Nat → Int32) (mpast : Nat → Int32) (mtext : Nat → Int32) (mread : Nat → Int32) (x1 : Int32) (x2 : Int32) {res : Int32 × (Nat → Int32)} (hf : fX7_reaches ms x1 x2 = some res) : zMet l Δ yX7_reaches cX7_reaches 7 (some .int) 4 92 [.ref (ad 0), .int x1, .int x2] (wX7 Δ ad thr saved mlen spot reads hash ms mpast mtext mread) (wX7 Δ ad thr saved mlen spot reads hash res.2 mpast mtext mread) (some (.int res.1)) := by
  refine z_start (by decide +kernel) (Nat.le_of_ble_eq_true rfl) ?_
  intro p e s m args below meth c A ls X Z hl
  have hl : lv_has ls 7 [(0, .ref (ad 0)), (1, .int x1), (2, .int x2)] := hl
  have L24 : ∀ (k : Nat) (ms : Nat → Int32) (v1 : Int32) (v2 : Int32) (v3 : Int32) (v4 : Int32) (v5 : Int32) (v6 : Int32), fX7_reaches_24 k ms v1 v2 v3 v4 v5 v6 = some res → ∀ (H : Heap) (locs : List Loc) (ls : Array Slot), zW Δ A s.heap (wX7 Δ ad thr saved mlen spot reads hash ms mpast mtext mread) H locs → lv_has ls 7 [(0, .ref (ad 0)), (1, .int v1), (2, .int v2), (3, .int v3), (4, .int v4), (5, .int v5), (6, .int v6)] → W p l e { frames := 4, cells := 0, slots := 0, locals := 92 } s m args below meth c H locs 0 0 (zEnd Δ below args s 0 0 A (some (.int res.1)) (wX7 Δ ad thr saved mlen spot reads hash res.2 mpast mtext mread)) (F0 m 24 ls []) := by
    intro k
    induction k with
    | zero =>
      intro ms v1 v2 v3 v4 v5 v6 hf
      rw [fX7_reaches_24.eq_1] at hf
      cases hf
    | succ k ih =>
      intro ms v1 v2 v3 v4 v5 v6 hf H locs ls Z hl
      rw [fX7_reaches_24.eq_2] at hf
      refine lv_iload X.x X.b dX7_reaches_24 (lv_at hl 6 rfl) ?_
      refine lv_iload_n X.x X.b dX7_reaches_26 rfl (lv_at hl 2 rfl) ?_
      refine lv_icmp_ge (tgt := 55) X.x X.b dX7_reaches_27 (by decide) (fun b1 => ?_) (fun b1 => ?_)
      · have hf := zif_t b1 hf
        refine lv_aload_n X.x X.b dX7_reaches_55 rfl (lv_at hl 0 rfl) ?_
        refine lv_iload_n X.x X.b dX7_reaches_56 rfl (lv_at hl 1 rfl) ?_
        refine lv_iload_n X.x X.b dX7_reaches_57 rfl (lv_at hl 2 rfl) ?_
        refine lv_iconst (v := 2) X.x X.b dX7_reaches_58 ki_2 ?_
        obtain ⟨q1, hq1, hf⟩ := zb_ok hf
        refine z_callV X Z hl (mX7_learns l Δ ad thr saved mlen spot reads hash ms mpast mtext mread v1 v2 2 hq1) wd_884 wd_886 wd_21 wd_68 wd_887 ok_X7_learns 7 rfl 0 rfl (w' := (wX7 Δ ad thr saved mlen spot reads hash q1 mpast mtext mread)) su_16 fs_16 pu_16 rfl (rest := []) rfl (Nat.le_of_ble_eq_true rfl) ⟨Nat.le_of_ble_eq_true rfl, Nat.le_of_ble_eq_true rfl⟩ ⟨Nat.zero_le _, Nat.zero_le _⟩ (st1 := []) rfl dX7_reaches_59 (fun H locs Z => ?_)
        refine lv_aload_n X.x X.b dX7_reaches_62 rfl (lv_at hl 0 rfl) ?_
        refine lv_iload_n X.x X.b dX7_reaches_63 rfl (lv_at hl 1 rfl) ?_
        refine lv_iconst (v := 0) X.x X.b dX7_reaches_64 ki_0 ?_
        refine lv_aload_n X.x X.b dX7_reaches_65 rfl (lv_at hl 0 rfl) ?_
        refine lv_iload_n X.x X.b dX7_reaches_66 rfl (lv_at hl 2 rfl) ?_
        refine lv_iconst (v := 2) X.x X.b dX7_reaches_67 ki_2 ?_
        obtain ⟨q2, hq2, hf⟩ := zb_ok hf
        refine z_callV X Z hl (mX7_of l Δ ad thr saved mlen spot reads hash q1 mpast mtext mread v2 2 hq2) wd_896 wd_898 wd_23 wd_68 wd_899 ok_X7_of 7 rfl 0 rfl (w' := (wX7 Δ ad thr saved mlen spot reads hash q1 mpast mtext mread)) su_16 fs_16 pu_16 rfl (rest := [.int 0, .int v1, .ref (ad 0)]) rfl (Nat.le_of_ble_eq_true rfl) ⟨Nat.le_of_ble_eq_true rfl, Nat.le_of_ble_eq_true rfl⟩ ⟨Nat.zero_le _, Nat.zero_le _⟩ (st1 := [.int q2, .int 0, .int v1, .ref (ad 0)]) rfl dX7_reaches_68 (fun H locs Z => ?_)
        refine lv_aload_n X.x X.b dX7_reaches_71 rfl (lv_at hl 0 rfl) ?_
        refine lv_iload X.x X.b dX7_reaches_72 (lv_at hl 4 rfl) ?_
        obtain ⟨q3, hq3, hf⟩ := zb_ok hf
        refine z_callV X Z hl (mX7_wordsOf l Δ ad thr saved mlen spot reads hash q1 mpast mtext mread v4 hq3) wd_950 wd_952 wd_32 wd_68 wd_953 ok_X7_wordsOf 7 rfl 0 rfl (w' := (wX7 Δ ad thr saved mlen spot reads hash q1 mpast mtext mread)) su_16 fs_16 pu_16 rfl (rest := [.int q2, .int 0, .int v1, .ref (ad 0)]) rfl (Nat.le_of_ble_eq_true rfl) ⟨Nat.le_of_ble_eq_true rfl, Nat.le_of_ble_eq_true rfl⟩ ⟨Nat.zero_le _, Nat.zero_le _⟩ (st1 := [.int q3, .int q2, .int 0, .int v1, .ref (ad 0)]) rfl dX7_reaches_74 (fun H locs Z => ?_)
        refine lv_iadd X.x X.b dX7_reaches_77 ?_
        obtain ⟨q4, hq4, hf⟩ := zb_ok hf
        refine z_callV X Z hl (mX7_grows l Δ ad thr saved mlen spot reads hash q1 mpast mtext mread v1 0 (q2 + q3) hq4) wd_954 wd_956 wd_33 wd_68 wd_957 ok_X7_grows 7 rfl 0 rfl (w' := (wX7 Δ ad thr saved mlen spot reads hash q4 mpast mtext mread)) su_16 fs_16 pu_16 rfl (rest := []) rfl (Nat.le_of_ble_eq_true rfl) ⟨Nat.le_of_ble_eq_true rfl, Nat.le_of_ble_eq_true rfl⟩ ⟨Nat.zero_le _, Nat.zero_le _⟩ (st1 := []) rfl dX7_reaches_78 (fun H locs Z => ?_)
        refine lv_aload_n X.x X.b dX7_reaches_81 rfl (lv_at hl 0 rfl) ?_
        refine lv_iload_n X.x X.b dX7_reaches_82 rfl (lv_at hl 1 rfl) ?_
        refine lv_iconst (v := 1) X.x X.b dX7_reaches_83 ki_1 ?_
        refine lv_iload X.x X.b dX7_reaches_84 (lv_at hl 5 rfl) ?_
        obtain ⟨q5, hq5, hf⟩ := zb_ok hf
        refine z_callV X Z hl (mX7_grows l Δ ad thr saved mlen spot reads hash q4 mpast mtext mread v1 1 v5 hq5) wd_954 wd_956 wd_33 wd_68 wd_957 ok_X7_grows 7 rfl 0 rfl (w' := (wX7 Δ ad thr saved mlen spot reads hash q5 mpast mtext mread)) su_16 fs_16 pu_16 rfl (rest := []) rfl (Nat.le_of_ble_eq_true rfl) ⟨Nat.le_of_ble_eq_true rfl, Nat.le_of_ble_eq_true rfl⟩ ⟨Nat.zero_le _, Nat.zero_le _⟩ (st1 := []) rfl dX7_reaches_86 (fun H locs Z => ?_)
        refine lv_aload_n X.x X.b dX7_reaches_89 rfl (lv_at hl 0 rfl) ?_
        refine lv_iload_n X.x X.b dX7_reaches_90 rfl (lv_at hl 1 rfl) ?_
        refine lv_iconst (v := 2) X.x X.b dX7_reaches_91 ki_2 ?_
        refine lv_iload_n X.x X.b dX7_reaches_92 rfl (lv_at hl 3 rfl) ?_
        obtain ⟨q6, hq6, hf⟩ := zb_ok hf
        refine z_callS X Z hl (mX7_ones l Δ  v3 hq6) wd_912 wd_913 wd_68 wd_914 ok_X7_ones (w' := (wX7 Δ ad thr saved mlen spot reads hash q5 mpast mtext mread)) zSub_nil rfl zput_nil rfl (rest := [.int 2, .int v1, .ref (ad 0)]) rfl (Nat.le_of_ble_eq_true rfl) ⟨Nat.le_of_ble_eq_true rfl, Nat.le_of_ble_eq_true rfl⟩ ⟨Nat.zero_le _, Nat.zero_le _⟩ (st1 := [.int q6, .int 2, .int v1, .ref (ad 0)]) rfl dX7_reaches_93 (fun H locs Z => ?_)
        refine lv_iload X.x X.b dX7_reaches_96 (lv_at hl 5 rfl) ?_
        refine lv_isub X.x X.b dX7_reaches_98 ?_
        obtain ⟨q7, hq7, hf⟩ := zb_ok hf
        refine z_callV X Z hl (mX7_grows l Δ ad thr saved mlen spot reads hash q5 mpast mtext mread v1 2 (q6 - v5) hq7) wd_954 wd_956 wd_33 wd_68 wd_957 ok_X7_grows 7 rfl 0 rfl (w' := (wX7 Δ ad thr saved mlen spot reads hash q7 mpast mtext mread)) su_16 fs_16 pu_16 rfl (rest := []) rfl (Nat.le_of_ble_eq_true rfl) ⟨Nat.le_of_ble_eq_true rfl, Nat.le_of_ble_eq_true rfl⟩ ⟨Nat.zero_le _, Nat.zero_le _⟩ (st1 := []) rfl dX7_reaches_99 (fun H locs Z => ?_)
        refine lv_aload_n X.x X.b dX7_reaches_102 rfl (lv_at hl 0 rfl) ?_
        refine z_gf inG_X7 (ci := 7) rfl 1 (Nat.le_of_ble_eq_true rfl) rfl X Z wd_823 0 rfl (v := .ref (ad 1)) rfl dX7_reaches_103 ?_
        refine lv_iconst (v := 3) X.x X.b dX7_reaches_106 ki_3 ?_
        refine lv_dup2_11 X.x X.b dX7_reaches_107 rfl rfl ?_
        refine z_iald X Z 1 rfl (zvin (by decide)) dX7_reaches_108 ?_
        refine lv_iconst (v := 1) X.x X.b dX7_reaches_109 ki_1 ?_
        refine lv_iadd X.x X.b dX7_reaches_110 ?_
        refine z_iast (w' := (wX7 Δ ad thr saved mlen spot reads hash (upd q7 (3 : Int32).toNatClampNeg ((q7 (3 : Int32).toNatClampNeg) + 1)) mpast mtext mread)) X Z 1 rfl (zvin (by decide)) rfl dX7_reaches_111 (fun H locs Z => ?_)
        refine lv_iload X.x X.b dX7_reaches_112 (lv_at hl 5 rfl) ?_
        cases hf
        exact z_iret X Z dX7_reaches_114
      · have hf := zif_f b1 hf
        refine lv_iload X.x X.b dX7_reaches_30 (lv_at hl 4 rfl) ?_
        refine lv_iload X.x X.b dX7_reaches_32 (lv_at hl 6 rfl) ?_
        refine lv_ishr X.x X.b dX7_reaches_34 ?_
        refine lv_iconst (v := 1) X.x X.b dX7_reaches_35 ki_1 ?_
        refine lv_iand X.x X.b dX7_reaches_36 ?_
        refine lv_iconst (v := 1) X.x X.b dX7_reaches_37 ki_1 ?_
        refine lv_icmp_ne (tgt := 49) X.x X.b dX7_reaches_38 (by decide) (fun b2 => ?_) (fun b2 => ?_)
        · have hf := zif_f b2 hf
          refine lv_iinc (v := (v6 + 1)) (lv' := [(6, .int (v6 + 1)), (0, .ref (ad 0)), (1, .int v1), (2, .int v2), (3, .int v3), (4, .int v4), (5, .int v5)]) X.x X.b dX7_reaches_49 hl (k := 6) rfl (congrArg _ ki_1) (Nat.le_of_ble_eq_true rfl) rfl (fun ls hl => ?_)
          refine lv_goto (tgt := 24) X.x X.b dX7_reaches_52 (by decide) ?_
          exact ih ms v1 v2 v3 v4 v5 (v6 + 1) hf _ _ _ Z (lv_sub hl [1, 2, 3, 4, 5, 6, 0] rfl)
        · have hf := zif_t b2 hf
          refine lv_aload_n X.x X.b dX7_reaches_41 rfl (lv_at hl 0 rfl) ?_
          refine lv_iload_n X.x X.b dX7_reaches_42 rfl (lv_at hl 1 rfl) ?_
          refine lv_iload X.x X.b dX7_reaches_43 (lv_at hl 6 rfl) ?_
          refine lv_iconst (v := 1) X.x X.b dX7_reaches_45 ki_1 ?_
          obtain ⟨q8, hq8, hf⟩ := zb_ok hf
          refine z_callV X Z hl (mX7_learns l Δ ad thr saved mlen spot reads hash ms mpast mtext mread v1 v6 1 hq8) wd_884 wd_886 wd_21 wd_68 wd_887 ok_X7_learns 7 rfl 0 rfl (w' := (wX7 Δ ad thr saved mlen spot reads hash q8 mpast mtext mread)) su_16 fs_16 pu_16 rfl (rest := []) rfl (Nat.le_of_ble_eq_true rfl) ⟨Nat.le_of_ble_eq_true rfl, Nat.le_of_ble_eq_true rfl⟩ ⟨Nat.zero_le _, Nat.zero_le _⟩ (st1 := []) rfl dX7_reaches_46 (fun H locs Z => ?_)
          refine lv_iinc (v := (v6 + 1)) (lv' := [(6, .int (v6 + 1)), (0, .ref (ad 0)), (1, .int v1), (2, .int v2), (3, .int v3), (4, .int v4), (5, .int v5)]) X.x X.b dX7_reaches_49 hl (k := 6) rfl (congrArg _ ki_1) (Nat.le_of_ble_eq_true rfl) rfl (fun ls hl => ?_)
          refine lv_goto (tgt := 24) X.x X.b dX7_reaches_52 (by decide) ?_
          exact ih q8 v1 v2 v3 v4 v5 (v6 + 1) hf _ _ _ Z (lv_sub hl [1, 2, 3, 4, 5, 6, 0] rfl)
  rw [fX7_reaches.eq_1] at hf
  refine lv_aload_n X.x X.b dX7_reaches_0 rfl (lv_at hl 0 rfl) ?_
  refine lv_iload_n X.x X.b dX7_reaches_1 rfl (lv_at hl 1 rfl) ?_
  refine lv_iload_n X.x X.b dX7_reaches_2 rfl (lv_at hl 2 rfl) ?_
  obtain ⟨q1, hq1, hf⟩ := zb_ok hf
  refine z_callV X Z hl (mX7_missed l Δ ad thr saved mlen spot reads hash ms mpast mtext mread x1 x2 hq1) wd_930 wd_932 wd_27 wd_68 wd_933 ok_X7_missed 7 rfl 0 rfl (w' := (wX7 Δ ad thr saved mlen spot reads hash ms mpast mtext mread)) su_16 fs_16 pu_16 rfl (rest := []) rfl (Nat.le_of_ble_eq_true rfl) ⟨Nat.le_of_ble_eq_true rfl, Nat.le_of_ble_eq_true rfl⟩ ⟨Nat.zero_le _, Nat.zero_le _⟩ (st1 := [.int q1]) rfl dX7_reaches_3 (fun H locs Z => ?_)
  refine lv_istore_n (lv' := [(3, .int q1), (0, .ref (ad 0)), (1, .int x1), (2, .int x2)]) X.x X.b dX7_reaches_6 rfl hl (Nat.le_of_ble_eq_true rfl) rfl (fun ls hl => ?_)
  refine lv_aload_n X.x X.b dX7_reaches_7 rfl (lv_at hl 1 rfl) ?_
  refine lv_iload_n X.x X.b dX7_reaches_8 rfl (lv_at hl 0 rfl) ?_
  obtain ⟨q2, hq2, hf⟩ := zb_ok hf
  refine z_callV X Z hl (mX7_told l Δ ad thr saved mlen spot reads hash ms mpast mtext mread q1 hq2) wd_946 wd_948 wd_31 wd_68 wd_949 ok_X7_told 7 rfl 0 rfl (w' := (wX7 Δ ad thr saved mlen spot reads hash ms mpast mtext mread)) su_16 fs_16 pu_16 rfl (rest := []) rfl (Nat.le_of_ble_eq_true rfl) ⟨Nat.le_of_ble_eq_true rfl, Nat.le_of_ble_eq_true rfl⟩ ⟨Nat.zero_le _, Nat.zero_le _⟩ (st1 := [.int q2]) rfl dX7_reaches_9 (fun H locs Z => ?_)
  refine lv_istore (lv' := [(4, .int q2), (3, .int q1), (0, .ref (ad 0)), (1, .int x1), (2, .int x2)]) X.x X.b dX7_reaches_12 hl (Nat.le_of_ble_eq_true rfl) rfl (fun ls hl => ?_)
  refine lv_iload X.x X.b dX7_reaches_14 (lv_at hl 0 rfl) ?_
  obtain ⟨q3, hq3, hf⟩ := zb_ok hf
  refine z_callS X Z hl (mX7_ones l Δ  q2 hq3) wd_912 wd_913 wd_68 wd_914 ok_X7_ones (w' := (wX7 Δ ad thr saved mlen spot reads hash ms mpast mtext mread)) zSub_nil rfl zput_nil rfl (rest := []) rfl (Nat.le_of_ble_eq_true rfl) ⟨Nat.le_of_ble_eq_true rfl, Nat.le_of_ble_eq_true rfl⟩ ⟨Nat.zero_le _, Nat.zero_le _⟩ (st1 := [.int q3]) rfl dX7_reaches_16 (fun H locs Z => ?_)
  refine lv_istore (lv' := [(5, .int q3), (4, .int q2), (3, .int q1), (0, .ref (ad 0)), (1, .int x1), (2, .int x2)]) X.x X.b dX7_reaches_19 hl (Nat.le_of_ble_eq_true rfl) rfl (fun ls hl => ?_)
  refine lv_iconst (v := 0) X.x X.b dX7_reaches_21 ki_0 ?_
  refine lv_istore (lv' := [(6, .int 0), (5, .int q3), (4, .int q2), (3, .int q1), (0, .ref (ad 0)), (1, .int x1), (2, .int x2)]) X.x X.b dX7_reaches_22 hl (Nat.le_of_ble_eq_true rfl) rfl (fun ls hl => ?_)
  exact L24 zfuel ms x1 x2 q1 q2 q3 0 hf _ _ _ Z (lv_sub hl [4, 5, 6, 3, 2, 1, 0] rfl)
set_option maxRecDepth 100000 in
set_option maxHeartbeats 4000000 in
theorem mX7_mail (l : Launch) (Δ : zE) (ad : Nat → Nat) (thr : Int32) (saved : Int32) (mlen : Int32) (spot : Int32) (reads : Int32) (hash : Int64) (ms : Nat → Int32) (mpast : Nat → Int32) (mtext : Nat → Int32) (mread : Nat → Int32) (x1 : Int32) (x2 : Int32) {res : Int32 × Int32 × Int32 × (Nat → Int32) × (Nat → Int32)} (hf : fX7_mail thr saved ms mpast x1 x2 = some res) : zMet l Δ yX7_mail cX7_mail 3 (some .int) 5 118 [.ref (ad 0), .int x1, .int x2] (wX7 Δ ad thr saved mlen spot reads hash ms mpast mtext mread) (wX7 Δ ad res.2.1 res.2.2.1 mlen spot reads hash res.2.2.2.1 res.2.2.2.2 mtext mread) (some (.int res.1)) := by
  refine z_start (by decide +kernel) (Nat.le_of_ble_eq_true rfl) ?_
  intro p e s m args below meth c A ls X Z hl
  have hl : lv_has ls 3 [(0, .ref (ad 0)), (1, .int x1), (2, .int x2)] := hl
  rw [fX7_mail.eq_1] at hf
  refine lv_aload_n X.x X.b dX7_mail_0 rfl (lv_at hl 0 rfl) ?_
  refine lv_iload_n X.x X.b dX7_mail_1 rfl (lv_at hl 1 rfl) ?_
  obtain ⟨q1, hq1, hf⟩ := zb_ok hf
  refine z_callS X Z hl (mX7_isReader l Δ  x1 hq1) wd_923 wd_924 wd_68 wd_925 ok_X7_isReader (w' := (wX7 Δ ad thr saved mlen spot reads hash ms mpast mtext mread)) zSub_nil rfl zput_nil rfl (rest := [.ref (ad 0)]) rfl (Nat.le_of_ble_eq_true rfl) ⟨Nat.le_of_ble_eq_true rfl, Nat.le_of_ble_eq_true rfl⟩ ⟨Nat.zero_le _, Nat.zero_le _⟩ (st1 := [.int q1, .ref (ad 0)]) rfl dX7_mail_2 (fun H locs Z => ?_)
  refine lv_if_eq (tgt := 16) X.x X.b dX7_mail_5 (by decide) (fun b1 => ?_) (fun b1 => ?_)
  · have hf := zif_t b1 hf
    refine lv_iconst (v := 1) X.x X.b dX7_mail_16 ki_1 ?_
    refine lv_goto (tgt := 35) X.x X.b dX7_mail_17 (by decide) ?_
    obtain ⟨q2, hq2, hf⟩ := zb_ok hf
    refine z_callV X Z hl (mX7_refuses l Δ ad thr saved mlen spot reads hash ms mpast mtext mread 1 hq2) wd_862 wd_864 wd_18 wd_68 wd_865 ok_X7_refuses 7 rfl 0 rfl (w' := (wX7 Δ ad q2.2 saved mlen spot reads hash ms mpast mtext mread)) su_16 fs_16 pu_16 rfl (rest := []) rfl (Nat.le_of_ble_eq_true rfl) ⟨Nat.le_of_ble_eq_true rfl, Nat.le_of_ble_eq_true rfl⟩ ⟨Nat.zero_le _, Nat.zero_le _⟩ (st1 := [.int q2.1]) rfl dX7_mail_35 (fun H locs Z => ?_)
    refine lv_if_eq (tgt := 43) X.x X.b dX7_mail_38 (by decide) (fun b2 => ?_) (fun b2 => ?_)
    · have hf := zif_t b2 hf
      refine lv_aload_n X.x X.b dX7_mail_43 rfl (lv_at hl 0 rfl) ?_
      obtain ⟨q3, hq3, hf⟩ := zb_ok hf
      refine z_callV X Z hl (mX7_saves l Δ ad q2.2 saved mlen spot reads hash ms mpast mtext mread hq3) wd_876 wd_878 wd_19 wd_68 wd_879 ok_X7_saves 7 rfl 0 rfl (w' := (wX7 Δ ad q2.2 q3.1 mlen spot reads hash ms q3.2 mtext mread)) su_16 fs_16 pu_16 rfl (rest := []) rfl (Nat.le_of_ble_eq_true rfl) ⟨Nat.le_of_ble_eq_true rfl, Nat.le_of_ble_eq_true rfl⟩ ⟨Nat.zero_le _, Nat.zero_le _⟩ (st1 := []) rfl dX7_mail_44 (fun H locs Z => ?_)
      refine lv_aload_n X.x X.b dX7_mail_47 rfl (lv_at hl 0 rfl) ?_
      refine lv_iload_n X.x X.b dX7_mail_48 rfl (lv_at hl 1 rfl) ?_
      refine lv_iload_n X.x X.b dX7_mail_49 rfl (lv_at hl 2 rfl) ?_
      obtain ⟨q4, hq4, hf⟩ := zb_ok hf
      refine z_callV X Z hl (mX7_reaches l Δ ad q2.2 q3.1 mlen spot reads hash ms q3.2 mtext mread x1 x2 hq4) wd_926 wd_928 wd_26 wd_68 wd_929 ok_X7_reaches 7 rfl 0 rfl (w' := (wX7 Δ ad q2.2 q3.1 mlen spot reads hash q4.2 q3.2 mtext mread)) su_16 fs_16 pu_16 rfl (rest := []) rfl (Nat.le_of_ble_eq_true rfl) ⟨Nat.le_of_ble_eq_true rfl, Nat.le_of_ble_eq_true rfl⟩ ⟨Nat.zero_le _, Nat.zero_le _⟩ (st1 := [.int q4.1]) rfl dX7_mail_50 (fun H locs Z => ?_)
      cases hf
      exact z_iret X Z dX7_mail_53
    · have hf := zif_f b2 hf
      refine lv_iconst (v := 0) X.x X.b dX7_mail_41 ki_0 ?_
      cases hf
      exact z_iret X Z dX7_mail_42
  · have hf := zif_f b1 hf
    refine lv_aload_n X.x X.b dX7_mail_8 rfl (lv_at hl 0 rfl) ?_
    refine lv_iload_n X.x X.b dX7_mail_9 rfl (lv_at hl 2 rfl) ?_
    obtain ⟨q5, hq5, hf⟩ := zb_ok hf
    refine z_callV X Z hl (mX7_isPart l Δ ad thr saved mlen spot reads hash ms mpast mtext mread x2 hq5) wd_892 wd_894 wd_22 wd_68 wd_895 ok_X7_isPart 7 rfl 0 rfl (w' := (wX7 Δ ad thr saved mlen spot reads hash ms mpast mtext mread)) su_16 fs_16 pu_16 rfl (rest := [.ref (ad 0)]) rfl (Nat.le_of_ble_eq_true rfl) ⟨Nat.le_of_ble_eq_true rfl, Nat.le_of_ble_eq_true rfl⟩ ⟨Nat.zero_le _, Nat.zero_le _⟩ (st1 := [.int q5, .ref (ad 0)]) rfl dX7_mail_10 (fun H locs Z => ?_)
    refine lv_if_ne (tgt := 20) X.x X.b dX7_mail_13 (by decide) (fun b3 => ?_) (fun b3 => ?_)
    · have hf := zif_f b3 hf
      refine lv_aload_n X.x X.b dX7_mail_20 rfl (lv_at hl 0 rfl) ?_
      refine lv_iload_n X.x X.b dX7_mail_21 rfl (lv_at hl 1 rfl) ?_
      refine lv_iload_n X.x X.b dX7_mail_22 rfl (lv_at hl 2 rfl) ?_
      obtain ⟨q6, hq6, hf⟩ := zb_ok hf
      refine z_callV X Z hl (mX7_known l Δ ad thr saved mlen spot reads hash ms mpast mtext mread x1 x2 hq6) wd_908 wd_910 wd_25 wd_68 wd_911 ok_X7_known 7 rfl 0 rfl (w' := (wX7 Δ ad thr saved mlen spot reads hash ms mpast mtext mread)) su_16 fs_16 pu_16 rfl (rest := [.ref (ad 0)]) rfl (Nat.le_of_ble_eq_true rfl) ⟨Nat.le_of_ble_eq_true rfl, Nat.le_of_ble_eq_true rfl⟩ ⟨Nat.zero_le _, Nat.zero_le _⟩ (st1 := [.int q6, .ref (ad 0)]) rfl dX7_mail_23 (fun H locs Z => ?_)
      refine lv_iconst (v := 2) X.x X.b dX7_mail_26 ki_2 ?_
      refine lv_icmp_ne (tgt := 34) X.x X.b dX7_mail_27 (by decide) (fun b4 => ?_) (fun b4 => ?_)
      · have hf := zif_f b4 hf
        refine lv_iconst (v := 0) X.x X.b dX7_mail_34 ki_0 ?_
        obtain ⟨q7, hq7, hf⟩ := zb_ok hf
        refine z_callV X Z hl (mX7_refuses l Δ ad thr saved mlen spot reads hash ms mpast mtext mread 0 hq7) wd_862 wd_864 wd_18 wd_68 wd_865 ok_X7_refuses 7 rfl 0 rfl (w' := (wX7 Δ ad q7.2 saved mlen spot reads hash ms mpast mtext mread)) su_16 fs_16 pu_16 rfl (rest := []) rfl (Nat.le_of_ble_eq_true rfl) ⟨Nat.le_of_ble_eq_true rfl, Nat.le_of_ble_eq_true rfl⟩ ⟨Nat.zero_le _, Nat.zero_le _⟩ (st1 := [.int q7.1]) rfl dX7_mail_35 (fun H locs Z => ?_)
        refine lv_if_eq (tgt := 43) X.x X.b dX7_mail_38 (by decide) (fun b5 => ?_) (fun b5 => ?_)
        · have hf := zif_t b5 hf
          refine lv_aload_n X.x X.b dX7_mail_43 rfl (lv_at hl 0 rfl) ?_
          obtain ⟨q8, hq8, hf⟩ := zb_ok hf
          refine z_callV X Z hl (mX7_saves l Δ ad q7.2 saved mlen spot reads hash ms mpast mtext mread hq8) wd_876 wd_878 wd_19 wd_68 wd_879 ok_X7_saves 7 rfl 0 rfl (w' := (wX7 Δ ad q7.2 q8.1 mlen spot reads hash ms q8.2 mtext mread)) su_16 fs_16 pu_16 rfl (rest := []) rfl (Nat.le_of_ble_eq_true rfl) ⟨Nat.le_of_ble_eq_true rfl, Nat.le_of_ble_eq_true rfl⟩ ⟨Nat.zero_le _, Nat.zero_le _⟩ (st1 := []) rfl dX7_mail_44 (fun H locs Z => ?_)
          refine lv_aload_n X.x X.b dX7_mail_47 rfl (lv_at hl 0 rfl) ?_
          refine lv_iload_n X.x X.b dX7_mail_48 rfl (lv_at hl 1 rfl) ?_
          refine lv_iload_n X.x X.b dX7_mail_49 rfl (lv_at hl 2 rfl) ?_
          obtain ⟨q9, hq9, hf⟩ := zb_ok hf
          refine z_callV X Z hl (mX7_reaches l Δ ad q7.2 q8.1 mlen spot reads hash ms q8.2 mtext mread x1 x2 hq9) wd_926 wd_928 wd_26 wd_68 wd_929 ok_X7_reaches 7 rfl 0 rfl (w' := (wX7 Δ ad q7.2 q8.1 mlen spot reads hash q9.2 q8.2 mtext mread)) su_16 fs_16 pu_16 rfl (rest := []) rfl (Nat.le_of_ble_eq_true rfl) ⟨Nat.le_of_ble_eq_true rfl, Nat.le_of_ble_eq_true rfl⟩ ⟨Nat.zero_le _, Nat.zero_le _⟩ (st1 := [.int q9.1]) rfl dX7_mail_50 (fun H locs Z => ?_)
          cases hf
          exact z_iret X Z dX7_mail_53
        · have hf := zif_f b5 hf
          refine lv_iconst (v := 0) X.x X.b dX7_mail_41 ki_0 ?_
          cases hf
          exact z_iret X Z dX7_mail_42
      · have hf := zif_t b4 hf
        refine lv_iconst (v := 2) X.x X.b dX7_mail_30 ki_2 ?_
        refine lv_goto (tgt := 35) X.x X.b dX7_mail_31 (by decide) ?_
        obtain ⟨q10, hq10, hf⟩ := zb_ok hf
        refine z_callV X Z hl (mX7_refuses l Δ ad thr saved mlen spot reads hash ms mpast mtext mread 2 hq10) wd_862 wd_864 wd_18 wd_68 wd_865 ok_X7_refuses 7 rfl 0 rfl (w' := (wX7 Δ ad q10.2 saved mlen spot reads hash ms mpast mtext mread)) su_16 fs_16 pu_16 rfl (rest := []) rfl (Nat.le_of_ble_eq_true rfl) ⟨Nat.le_of_ble_eq_true rfl, Nat.le_of_ble_eq_true rfl⟩ ⟨Nat.zero_le _, Nat.zero_le _⟩ (st1 := [.int q10.1]) rfl dX7_mail_35 (fun H locs Z => ?_)
        refine lv_if_eq (tgt := 43) X.x X.b dX7_mail_38 (by decide) (fun b6 => ?_) (fun b6 => ?_)
        · have hf := zif_t b6 hf
          refine lv_aload_n X.x X.b dX7_mail_43 rfl (lv_at hl 0 rfl) ?_
          obtain ⟨q11, hq11, hf⟩ := zb_ok hf
          refine z_callV X Z hl (mX7_saves l Δ ad q10.2 saved mlen spot reads hash ms mpast mtext mread hq11) wd_876 wd_878 wd_19 wd_68 wd_879 ok_X7_saves 7 rfl 0 rfl (w' := (wX7 Δ ad q10.2 q11.1 mlen spot reads hash ms q11.2 mtext mread)) su_16 fs_16 pu_16 rfl (rest := []) rfl (Nat.le_of_ble_eq_true rfl) ⟨Nat.le_of_ble_eq_true rfl, Nat.le_of_ble_eq_true rfl⟩ ⟨Nat.zero_le _, Nat.zero_le _⟩ (st1 := []) rfl dX7_mail_44 (fun H locs Z => ?_)
          refine lv_aload_n X.x X.b dX7_mail_47 rfl (lv_at hl 0 rfl) ?_
          refine lv_iload_n X.x X.b dX7_mail_48 rfl (lv_at hl 1 rfl) ?_
          refine lv_iload_n X.x X.b dX7_mail_49 rfl (lv_at hl 2 rfl) ?_
          obtain ⟨q12, hq12, hf⟩ := zb_ok hf
          refine z_callV X Z hl (mX7_reaches l Δ ad q10.2 q11.1 mlen spot reads hash ms q11.2 mtext mread x1 x2 hq12) wd_926 wd_928 wd_26 wd_68 wd_929 ok_X7_reaches 7 rfl 0 rfl (w' := (wX7 Δ ad q10.2 q11.1 mlen spot reads hash q12.2 q11.2 mtext mread)) su_16 fs_16 pu_16 rfl (rest := []) rfl (Nat.le_of_ble_eq_true rfl) ⟨Nat.le_of_ble_eq_true rfl, Nat.le_of_ble_eq_true rfl⟩ ⟨Nat.zero_le _, Nat.zero_le _⟩ (st1 := [.int q12.1]) rfl dX7_mail_50 (fun H locs Z => ?_)
          cases hf
          exact z_iret X Z dX7_mail_53
        · have hf := zif_f b6 hf
          refine lv_iconst (v := 0) X.x X.b dX7_mail_41 ki_0 ?_
          cases hf
          exact z_iret X Z dX7_mail_42
    · have hf := zif_t b3 hf
      refine lv_iconst (v := 1) X.x X.b dX7_mail_16 ki_1 ?_
      refine lv_goto (tgt := 35) X.x X.b dX7_mail_17 (by decide) ?_
      obtain ⟨q13, hq13, hf⟩ := zb_ok hf
      refine z_callV X Z hl (mX7_refuses l Δ ad thr saved mlen spot reads hash ms mpast mtext mread 1 hq13) wd_862 wd_864 wd_18 wd_68 wd_865 ok_X7_refuses 7 rfl 0 rfl (w' := (wX7 Δ ad q13.2 saved mlen spot reads hash ms mpast mtext mread)) su_16 fs_16 pu_16 rfl (rest := []) rfl (Nat.le_of_ble_eq_true rfl) ⟨Nat.le_of_ble_eq_true rfl, Nat.le_of_ble_eq_true rfl⟩ ⟨Nat.zero_le _, Nat.zero_le _⟩ (st1 := [.int q13.1]) rfl dX7_mail_35 (fun H locs Z => ?_)
      refine lv_if_eq (tgt := 43) X.x X.b dX7_mail_38 (by decide) (fun b7 => ?_) (fun b7 => ?_)
      · have hf := zif_t b7 hf
        refine lv_aload_n X.x X.b dX7_mail_43 rfl (lv_at hl 0 rfl) ?_
        obtain ⟨q14, hq14, hf⟩ := zb_ok hf
        refine z_callV X Z hl (mX7_saves l Δ ad q13.2 saved mlen spot reads hash ms mpast mtext mread hq14) wd_876 wd_878 wd_19 wd_68 wd_879 ok_X7_saves 7 rfl 0 rfl (w' := (wX7 Δ ad q13.2 q14.1 mlen spot reads hash ms q14.2 mtext mread)) su_16 fs_16 pu_16 rfl (rest := []) rfl (Nat.le_of_ble_eq_true rfl) ⟨Nat.le_of_ble_eq_true rfl, Nat.le_of_ble_eq_true rfl⟩ ⟨Nat.zero_le _, Nat.zero_le _⟩ (st1 := []) rfl dX7_mail_44 (fun H locs Z => ?_)
        refine lv_aload_n X.x X.b dX7_mail_47 rfl (lv_at hl 0 rfl) ?_
        refine lv_iload_n X.x X.b dX7_mail_48 rfl (lv_at hl 1 rfl) ?_
        refine lv_iload_n X.x X.b dX7_mail_49 rfl (lv_at hl 2 rfl) ?_
        obtain ⟨q15, hq15, hf⟩ := zb_ok hf
        refine z_callV X Z hl (mX7_reaches l Δ ad q13.2 q14.1 mlen spot reads hash ms q14.2 mtext mread x1 x2 hq15) wd_926 wd_928 wd_26 wd_68 wd_929 ok_X7_reaches 7 rfl 0 rfl (w' := (wX7 Δ ad q13.2 q14.1 mlen spot reads hash q15.2 q14.2 mtext mread)) su_16 fs_16 pu_16 rfl (rest := []) rfl (Nat.le_of_ble_eq_true rfl) ⟨Nat.le_of_ble_eq_true rfl, Nat.le_of_ble_eq_true rfl⟩ ⟨Nat.zero_le _, Nat.zero_le _⟩ (st1 := [.int q15.1]) rfl dX7_mail_50 (fun H locs Z => ?_)
        cases hf
        exact z_iret X Z dX7_mail_53
      · have hf := zif_f b7 hf
        refine lv_iconst (v := 0) X.x X.b dX7_mail_41 ki_0 ?_
        cases hf
        exact z_iret X Z dX7_mail_42
set_option maxRecDepth 100000 in
set_option maxHeartbeats 4000000 in
theorem mX7_mailAll (l : Launch) (Δ : zE) (ad : Nat → Nat) (thr : Int32) (saved : Int32) (mlen : Int32) (spot : Int32) (reads : Int32) (hash : Int64) (ms : Nat → Int32) (mpast : Nat → Int32) (mtext : Nat → Int32) (mread : Nat → Int32) (x1 : Int32) (x2 : Int32) {res : Int32 × Int32 × Int32 × (Nat → Int32) × (Nat → Int32)} (hf : fX7_mailAll thr saved ms mpast x1 x2 = some res) : zMet l Δ yX7_mailAll cX7_mailAll 8 (some .int) 5 118 [.ref (ad 0), .int x1, .int x2] (wX7 Δ ad thr saved mlen spot reads hash ms mpast mtext mread) (wX7 Δ ad res.2.1 res.2.2.1 mlen spot reads hash res.2.2.2.1 res.2.2.2.2 mtext mread) (some (.int res.1)) := by
  refine z_start (by decide +kernel) (Nat.le_of_ble_eq_true rfl) ?_
  intro p e s m args below meth c A ls X Z hl
  have hl : lv_has ls 8 [(0, .ref (ad 0)), (1, .int x1), (2, .int x2)] := hl
  have L45 : ∀ (k : Nat) (thr : Int32) (saved : Int32) (ms : Nat → Int32) (mpast : Nat → Int32) (v1 : Int32) (v2 : Int32) (v3 : Int32) (v4 : Int32), fX7_mailAll_45 k thr saved ms mpast v1 v2 v3 v4 = some res → ∀ (H : Heap) (locs : List Loc) (ls : Array Slot), zW Δ A s.heap (wX7 Δ ad thr saved mlen spot reads hash ms mpast mtext mread) H locs → lv_has ls 8 [(0, .ref (ad 0)), (1, .int v1), (2, .int v2), (3, .int v3), (4, .int v4)] → W p l e { frames := 5, cells := 0, slots := 0, locals := 118 } s m args below meth c H locs 0 0 (zEnd Δ below args s 0 0 A (some (.int res.1)) (wX7 Δ ad res.2.1 res.2.2.1 mlen spot reads hash res.2.2.2.1 res.2.2.2.2 mtext mread)) (F0 m 45 ls []) := by
    intro k
    induction k with
    | zero =>
      intro thr saved ms mpast v1 v2 v3 v4 hf
      rw [fX7_mailAll_45.eq_1] at hf
      cases hf
    | succ k ih =>
      intro thr saved ms mpast v1 v2 v3 v4 hf H locs ls Z hl
      rw [fX7_mailAll_45.eq_2] at hf
      refine lv_iload X.x X.b dX7_mailAll_45 (lv_at hl 4 rfl) ?_
      refine lv_bipush (v := 6) X.x X.b dX7_mailAll_47 kb_6 ?_
      refine lv_icmp_ge (tgt := 149) X.x X.b dX7_mailAll_49 (by decide) (fun b1 => ?_) (fun b1 => ?_)
      · have hf := zif_t b1 hf
        refine lv_iload_n X.x X.b dX7_mailAll_149 rfl (lv_at hl 3 rfl) ?_
        cases hf
        exact z_iret X Z dX7_mailAll_150
      · have hf := zif_f b1 hf
        refine lv_aload_n X.x X.b dX7_mailAll_52 rfl (lv_at hl 0 rfl) ?_
        refine lv_iload X.x X.b dX7_mailAll_53 (lv_at hl 4 rfl) ?_
        refine lv_iload_n X.x X.b dX7_mailAll_55 rfl (lv_at hl 1 rfl) ?_
        obtain ⟨q1, hq1, hf⟩ := zb_ok hf
        refine z_callV X Z hl (mX7_known l Δ ad thr saved mlen spot reads hash ms mpast mtext mread v4 v1 hq1) wd_908 wd_910 wd_25 wd_68 wd_911 ok_X7_known 7 rfl 0 rfl (w' := (wX7 Δ ad thr saved mlen spot reads hash ms mpast mtext mread)) su_16 fs_16 pu_16 rfl (rest := []) rfl (Nat.le_of_ble_eq_true rfl) ⟨Nat.le_of_ble_eq_true rfl, Nat.le_of_ble_eq_true rfl⟩ ⟨Nat.zero_le _, Nat.zero_le _⟩ (st1 := [.int q1]) rfl dX7_mailAll_56 (fun H locs Z => ?_)
        refine lv_iconst (v := 2) X.x X.b dX7_mailAll_59 ki_2 ?_
        refine lv_icmp_eq (tgt := 67) X.x X.b dX7_mailAll_60 (by decide) (fun b2 => ?_) (fun b2 => ?_)
        · have hf := zif_t b2 hf
          refine lv_iconst (v := 0) X.x X.b dX7_mailAll_67 ki_0 ?_
          refine lv_istore (lv' := [(5, .int 0), (0, .ref (ad 0)), (1, .int v1), (2, .int v2), (3, .int v3), (4, .int v4)]) X.x X.b dX7_mailAll_68 hl (Nat.le_of_ble_eq_true rfl) rfl (fun ls hl => ?_)
          refine lv_iload_n X.x X.b dX7_mailAll_70 rfl (lv_at hl 3 rfl) ?_
          refine lv_iload X.x X.b dX7_mailAll_71 (lv_at hl 5 rfl) ?_
          refine lv_ishr X.x X.b dX7_mailAll_73 ?_
          refine lv_iconst (v := 1) X.x X.b dX7_mailAll_74 ki_1 ?_
          refine lv_iand X.x X.b dX7_mailAll_75 ?_
          refine lv_iconst (v := 1) X.x X.b dX7_mailAll_76 ki_1 ?_
          refine lv_icmp_ne (tgt := 84) X.x X.b dX7_mailAll_77 (by decide) (fun b3 => ?_) (fun b3 => ?_)
          · have hf := zif_f b3 hf
            refine lv_iconst (v := 0) X.x X.b dX7_mailAll_84 ki_0 ?_
            refine lv_istore (lv' := [(6, .int 0), (5, .int 0), (0, .ref (ad 0)), (1, .int v1), (2, .int v2), (3, .int v3), (4, .int v4)]) X.x X.b dX7_mailAll_85 hl (Nat.le_of_ble_eq_true rfl) rfl (fun ls hl => ?_)
            refine lv_aload_n X.x X.b dX7_mailAll_87 rfl (lv_at hl 2 rfl) ?_
            refine z_gf inG_X7 (ci := 7) rfl 1 (Nat.le_of_ble_eq_true rfl) rfl X Z wd_823 0 rfl (v := .ref (ad 1)) rfl dX7_mailAll_88 ?_
            refine lv_iconst (v := 4) X.x X.b dX7_mailAll_91 ki_4 ?_
            refine lv_dup2_11 X.x X.b dX7_mailAll_92 rfl rfl ?_
            refine z_iald X Z 1 rfl (zvin (by decide)) dX7_mailAll_93 ?_
            refine lv_iload X.x X.b dX7_mailAll_94 (lv_at hl 1 rfl) ?_
            refine lv_if_eq (tgt := 108) X.x X.b dX7_mailAll_96 (by decide) (fun _ => ?_) (fun h => absurd h (by decide))
            refine lv_iconst (v := 0) X.x X.b dX7_mailAll_108 ki_0 ?_
            refine lv_iadd X.x X.b dX7_mailAll_109 ?_
            refine z_iast (w' := (wX7 Δ ad thr saved mlen spot reads hash (upd ms (4 : Int32).toNatClampNeg ((ms (4 : Int32).toNatClampNeg) + 0)) mpast mtext mread)) X Z 1 rfl (zvin (by decide)) rfl dX7_mailAll_110 (fun H locs Z => ?_)
            refine lv_iload X.x X.b dX7_mailAll_111 (lv_at hl 1 rfl) ?_
            refine lv_if_eq (tgt := 143) X.x X.b dX7_mailAll_113 (by decide) (fun _ => ?_) (fun h => absurd h (by decide))
            refine lv_iinc (v := (v4 + 1)) (lv' := [(4, .int (v4 + 1)), (6, .int 0), (5, .int 0), (0, .ref (ad 0)), (1, .int v1), (2, .int v2), (3, .int v3)]) X.x X.b dX7_mailAll_143 hl (k := 6) rfl (congrArg _ ki_1) (Nat.le_of_ble_eq_true rfl) rfl (fun ls hl => ?_)
            refine lv_goto (tgt := 45) X.x X.b dX7_mailAll_146 (by decide) ?_
            exact ih thr saved (upd ms (4 : Int32).toNatClampNeg ((ms (4 : Int32).toNatClampNeg) + 0)) mpast v1 v2 v3 (v4 + 1) hf _ _ _ Z (lv_sub hl [3, 4, 5, 6, 0] rfl)
          · have hf := zif_t b3 hf
            refine lv_iconst (v := 1) X.x X.b dX7_mailAll_80 ki_1 ?_
            refine lv_goto (tgt := 85) X.x X.b dX7_mailAll_81 (by decide) ?_
            refine lv_istore (lv' := [(6, .int 1), (5, .int 0), (0, .ref (ad 0)), (1, .int v1), (2, .int v2), (3, .int v3), (4, .int v4)]) X.x X.b dX7_mailAll_85 hl (Nat.le_of_ble_eq_true rfl) rfl (fun ls hl => ?_)
            refine lv_aload_n X.x X.b dX7_mailAll_87 rfl (lv_at hl 2 rfl) ?_
            refine z_gf inG_X7 (ci := 7) rfl 1 (Nat.le_of_ble_eq_true rfl) rfl X Z wd_823 0 rfl (v := .ref (ad 1)) rfl dX7_mailAll_88 ?_
            refine lv_iconst (v := 4) X.x X.b dX7_mailAll_91 ki_4 ?_
            refine lv_dup2_11 X.x X.b dX7_mailAll_92 rfl rfl ?_
            refine z_iald X Z 1 rfl (zvin (by decide)) dX7_mailAll_93 ?_
            refine lv_iload X.x X.b dX7_mailAll_94 (lv_at hl 1 rfl) ?_
            refine lv_if_eq (tgt := 108) X.x X.b dX7_mailAll_96 (by decide) (fun _ => ?_) (fun h => absurd h (by decide))
            refine lv_iconst (v := 0) X.x X.b dX7_mailAll_108 ki_0 ?_
            refine lv_iadd X.x X.b dX7_mailAll_109 ?_
            refine z_iast (w' := (wX7 Δ ad thr saved mlen spot reads hash (upd ms (4 : Int32).toNatClampNeg ((ms (4 : Int32).toNatClampNeg) + 0)) mpast mtext mread)) X Z 1 rfl (zvin (by decide)) rfl dX7_mailAll_110 (fun H locs Z => ?_)
            refine lv_iload X.x X.b dX7_mailAll_111 (lv_at hl 1 rfl) ?_
            refine lv_if_eq (tgt := 143) X.x X.b dX7_mailAll_113 (by decide) (fun _ => ?_) (fun h => absurd h (by decide))
            refine lv_iinc (v := (v4 + 1)) (lv' := [(4, .int (v4 + 1)), (6, .int 1), (5, .int 0), (0, .ref (ad 0)), (1, .int v1), (2, .int v2), (3, .int v3)]) X.x X.b dX7_mailAll_143 hl (k := 6) rfl (congrArg _ ki_1) (Nat.le_of_ble_eq_true rfl) rfl (fun ls hl => ?_)
            refine lv_goto (tgt := 45) X.x X.b dX7_mailAll_146 (by decide) ?_
            exact ih thr saved (upd ms (4 : Int32).toNatClampNeg ((ms (4 : Int32).toNatClampNeg) + 0)) mpast v1 v2 v3 (v4 + 1) hf _ _ _ Z (lv_sub hl [3, 4, 5, 6, 0] rfl)
        · have hf := zif_f b2 hf
          refine lv_iconst (v := 1) X.x X.b dX7_mailAll_63 ki_1 ?_
          refine lv_goto (tgt := 68) X.x X.b dX7_mailAll_64 (by decide) ?_
          refine lv_istore (lv' := [(5, .int 1), (0, .ref (ad 0)), (1, .int v1), (2, .int v2), (3, .int v3), (4, .int v4)]) X.x X.b dX7_mailAll_68 hl (Nat.le_of_ble_eq_true rfl) rfl (fun ls hl => ?_)
          refine lv_iload_n X.x X.b dX7_mailAll_70 rfl (lv_at hl 3 rfl) ?_
          refine lv_iload X.x X.b dX7_mailAll_71 (lv_at hl 5 rfl) ?_
          refine lv_ishr X.x X.b dX7_mailAll_73 ?_
          refine lv_iconst (v := 1) X.x X.b dX7_mailAll_74 ki_1 ?_
          refine lv_iand X.x X.b dX7_mailAll_75 ?_
          refine lv_iconst (v := 1) X.x X.b dX7_mailAll_76 ki_1 ?_
          refine lv_icmp_ne (tgt := 84) X.x X.b dX7_mailAll_77 (by decide) (fun b4 => ?_) (fun b4 => ?_)
          · have hf := zif_f b4 hf
            refine lv_iconst (v := 0) X.x X.b dX7_mailAll_84 ki_0 ?_
            refine lv_istore (lv' := [(6, .int 0), (5, .int 1), (0, .ref (ad 0)), (1, .int v1), (2, .int v2), (3, .int v3), (4, .int v4)]) X.x X.b dX7_mailAll_85 hl (Nat.le_of_ble_eq_true rfl) rfl (fun ls hl => ?_)
            refine lv_aload_n X.x X.b dX7_mailAll_87 rfl (lv_at hl 2 rfl) ?_
            refine z_gf inG_X7 (ci := 7) rfl 1 (Nat.le_of_ble_eq_true rfl) rfl X Z wd_823 0 rfl (v := .ref (ad 1)) rfl dX7_mailAll_88 ?_
            refine lv_iconst (v := 4) X.x X.b dX7_mailAll_91 ki_4 ?_
            refine lv_dup2_11 X.x X.b dX7_mailAll_92 rfl rfl ?_
            refine z_iald X Z 1 rfl (zvin (by decide)) dX7_mailAll_93 ?_
            refine lv_iload X.x X.b dX7_mailAll_94 (lv_at hl 1 rfl) ?_
            refine lv_if_eq (tgt := 108) X.x X.b dX7_mailAll_96 (by decide) (fun h => absurd h (by decide)) (fun _ => ?_)
            refine lv_iload X.x X.b dX7_mailAll_99 (lv_at hl 0 rfl) ?_
            refine lv_if_eq (tgt := 108) X.x X.b dX7_mailAll_101 (by decide) (fun _ => ?_) (fun h => absurd h (by decide))
            refine lv_iconst (v := 0) X.x X.b dX7_mailAll_108 ki_0 ?_
            refine lv_iadd X.x X.b dX7_mailAll_109 ?_
            refine z_iast (w' := (wX7 Δ ad thr saved mlen spot reads hash (upd ms (4 : Int32).toNatClampNeg ((ms (4 : Int32).toNatClampNeg) + 0)) mpast mtext mread)) X Z 1 rfl (zvin (by decide)) rfl dX7_mailAll_110 (fun H locs Z => ?_)
            refine lv_iload X.x X.b dX7_mailAll_111 (lv_at hl 1 rfl) ?_
            refine lv_if_eq (tgt := 143) X.x X.b dX7_mailAll_113 (by decide) (fun h => absurd h (by decide)) (fun _ => ?_)
            refine lv_iload X.x X.b dX7_mailAll_116 (lv_at hl 0 rfl) ?_
            refine lv_if_ne (tgt := 143) X.x X.b dX7_mailAll_118 (by decide) (fun h => absurd h (by decide)) (fun _ => ?_)
            refine lv_aload_n X.x X.b dX7_mailAll_121 rfl (lv_at hl 2 rfl) ?_
            refine lv_iload X.x X.b dX7_mailAll_122 (lv_at hl 6 rfl) ?_
            refine lv_iload_n X.x X.b dX7_mailAll_124 rfl (lv_at hl 3 rfl) ?_
            obtain ⟨q2, hq2, hf⟩ := zb_ok hf
            refine z_callV X Z hl (mX7_reaches l Δ ad thr saved mlen spot reads hash (upd ms (4 : Int32).toNatClampNeg ((ms (4 : Int32).toNatClampNeg) + 0)) mpast mtext mread v4 v1 hq2) wd_926 wd_928 wd_26 wd_68 wd_929 ok_X7_reaches 7 rfl 0 rfl (w' := (wX7 Δ ad thr saved mlen spot reads hash q2.2 mpast mtext mread)) su_16 fs_16 pu_16 rfl (rest := []) rfl (Nat.le_of_ble_eq_true rfl) ⟨Nat.le_of_ble_eq_true rfl, Nat.le_of_ble_eq_true rfl⟩ ⟨Nat.zero_le _, Nat.zero_le _⟩ (st1 := [.int q2.1]) rfl dX7_mailAll_125 (fun H locs Z => ?_)
            refine lv_istore (lv' := [(7, .int q2.1), (6, .int 0), (5, .int 1), (0, .ref (ad 0)), (1, .int v1), (2, .int v2), (3, .int v3), (4, .int v4)]) X.x X.b dX7_mailAll_128 hl (Nat.le_of_ble_eq_true rfl) rfl (fun ls hl => ?_)
            refine lv_iload_n X.x X.b dX7_mailAll_130 rfl (lv_at hl 6 rfl) ?_
            refine lv_iload X.x X.b dX7_mailAll_131 (lv_at hl 0 rfl) ?_
            refine lv_if_ge (tgt := 140) X.x X.b dX7_mailAll_133 (by decide) (fun b5 => ?_) (fun b5 => ?_)
            · have hf := zif_t b5 hf
              refine lv_iconst (v := 1) X.x X.b dX7_mailAll_140 ki_1 ?_
              refine lv_iadd X.x X.b dX7_mailAll_141 ?_
              refine lv_istore_n (lv' := [(3, .int (v3 + 1)), (7, .int q2.1), (6, .int 0), (5, .int 1), (0, .ref (ad 0)), (1, .int v1), (2, .int v2), (4, .int v4)]) X.x X.b dX7_mailAll_142 rfl hl (Nat.le_of_ble_eq_true rfl) rfl (fun ls hl => ?_)
              refine lv_iinc (v := (v4 + 1)) (lv' := [(4, .int (v4 + 1)), (3, .int (v3 + 1)), (7, .int q2.1), (6, .int 0), (5, .int 1), (0, .ref (ad 0)), (1, .int v1), (2, .int v2)]) X.x X.b dX7_mailAll_143 hl (k := 7) rfl (congrArg _ ki_1) (Nat.le_of_ble_eq_true rfl) rfl (fun ls hl => ?_)
              refine lv_goto (tgt := 45) X.x X.b dX7_mailAll_146 (by decide) ?_
              exact ih thr saved q2.2 mpast v1 v2 (v3 + 1) (v4 + 1) hf _ _ _ Z (lv_sub hl [5, 6, 7, 1, 0] rfl)
            · have hf := zif_f b5 hf
              refine lv_iconst (v := 0) X.x X.b dX7_mailAll_136 ki_0 ?_
              refine lv_goto (tgt := 141) X.x X.b dX7_mailAll_137 (by decide) ?_
              refine lv_iadd X.x X.b dX7_mailAll_141 ?_
              refine lv_istore_n (lv' := [(3, .int (v3 + 0)), (7, .int q2.1), (6, .int 0), (5, .int 1), (0, .ref (ad 0)), (1, .int v1), (2, .int v2), (4, .int v4)]) X.x X.b dX7_mailAll_142 rfl hl (Nat.le_of_ble_eq_true rfl) rfl (fun ls hl => ?_)
              refine lv_iinc (v := (v4 + 1)) (lv' := [(4, .int (v4 + 1)), (3, .int (v3 + 0)), (7, .int q2.1), (6, .int 0), (5, .int 1), (0, .ref (ad 0)), (1, .int v1), (2, .int v2)]) X.x X.b dX7_mailAll_143 hl (k := 7) rfl (congrArg _ ki_1) (Nat.le_of_ble_eq_true rfl) rfl (fun ls hl => ?_)
              refine lv_goto (tgt := 45) X.x X.b dX7_mailAll_146 (by decide) ?_
              exact ih thr saved q2.2 mpast v1 v2 (v3 + 0) (v4 + 1) hf _ _ _ Z (lv_sub hl [5, 6, 7, 1, 0] rfl)
          · have hf := zif_t b4 hf
            refine lv_iconst (v := 1) X.x X.b dX7_mailAll_80 ki_1 ?_
            refine lv_goto (tgt := 85) X.x X.b dX7_mailAll_81 (by decide) ?_
            refine lv_istore (lv' := [(6, .int 1), (5, .int 1), (0, .ref (ad 0)), (1, .int v1), (2, .int v2), (3, .int v3), (4, .int v4)]) X.x X.b dX7_mailAll_85 hl (Nat.le_of_ble_eq_true rfl) rfl (fun ls hl => ?_)
            refine lv_aload_n X.x X.b dX7_mailAll_87 rfl (lv_at hl 2 rfl) ?_
            refine z_gf inG_X7 (ci := 7) rfl 1 (Nat.le_of_ble_eq_true rfl) rfl X Z wd_823 0 rfl (v := .ref (ad 1)) rfl dX7_mailAll_88 ?_
            refine lv_iconst (v := 4) X.x X.b dX7_mailAll_91 ki_4 ?_
            refine lv_dup2_11 X.x X.b dX7_mailAll_92 rfl rfl ?_
            refine z_iald X Z 1 rfl (zvin (by decide)) dX7_mailAll_93 ?_
            refine lv_iload X.x X.b dX7_mailAll_94 (lv_at hl 1 rfl) ?_
            refine lv_if_eq (tgt := 108) X.x X.b dX7_mailAll_96 (by decide) (fun h => absurd h (by decide)) (fun _ => ?_)
            refine lv_iload X.x X.b dX7_mailAll_99 (lv_at hl 0 rfl) ?_
            refine lv_if_eq (tgt := 108) X.x X.b dX7_mailAll_101 (by decide) (fun h => absurd h (by decide)) (fun _ => ?_)
            refine lv_iconst (v := 1) X.x X.b dX7_mailAll_104 ki_1 ?_
            refine lv_goto (tgt := 109) X.x X.b dX7_mailAll_105 (by decide) ?_
            refine lv_iadd X.x X.b dX7_mailAll_109 ?_
            refine z_iast (w' := (wX7 Δ ad thr saved mlen spot reads hash (upd ms (4 : Int32).toNatClampNeg ((ms (4 : Int32).toNatClampNeg) + 1)) mpast mtext mread)) X Z 1 rfl (zvin (by decide)) rfl dX7_mailAll_110 (fun H locs Z => ?_)
            refine lv_iload X.x X.b dX7_mailAll_111 (lv_at hl 1 rfl) ?_
            refine lv_if_eq (tgt := 143) X.x X.b dX7_mailAll_113 (by decide) (fun h => absurd h (by decide)) (fun _ => ?_)
            refine lv_iload X.x X.b dX7_mailAll_116 (lv_at hl 0 rfl) ?_
            refine lv_if_ne (tgt := 143) X.x X.b dX7_mailAll_118 (by decide) (fun _ => ?_) (fun h => absurd h (by decide))
            refine lv_iinc (v := (v4 + 1)) (lv' := [(4, .int (v4 + 1)), (6, .int 1), (5, .int 1), (0, .ref (ad 0)), (1, .int v1), (2, .int v2), (3, .int v3)]) X.x X.b dX7_mailAll_143 hl (k := 6) rfl (congrArg _ ki_1) (Nat.le_of_ble_eq_true rfl) rfl (fun ls hl => ?_)
            refine lv_goto (tgt := 45) X.x X.b dX7_mailAll_146 (by decide) ?_
            exact ih thr saved (upd ms (4 : Int32).toNatClampNeg ((ms (4 : Int32).toNatClampNeg) + 1)) mpast v1 v2 v3 (v4 + 1) hf _ _ _ Z (lv_sub hl [3, 4, 5, 6, 0] rfl)
  rw [fX7_mailAll.eq_1] at hf
  refine lv_aload_n X.x X.b dX7_mailAll_0 rfl (lv_at hl 0 rfl) ?_
  refine lv_aload_n X.x X.b dX7_mailAll_1 rfl (lv_at hl 0 rfl) ?_
  refine lv_iload_n X.x X.b dX7_mailAll_2 rfl (lv_at hl 1 rfl) ?_
  obtain ⟨q1, hq1, hf⟩ := zb_ok hf
  refine z_callV X Z hl (mX7_isPart l Δ ad thr saved mlen spot reads hash ms mpast mtext mread x1 hq1) wd_892 wd_894 wd_22 wd_68 wd_895 ok_X7_isPart 7 rfl 0 rfl (w' := (wX7 Δ ad thr saved mlen spot reads hash ms mpast mtext mread)) su_16 fs_16 pu_16 rfl (rest := [.ref (ad 0)]) rfl (Nat.le_of_ble_eq_true rfl) ⟨Nat.le_of_ble_eq_true rfl, Nat.le_of_ble_eq_true rfl⟩ ⟨Nat.zero_le _, Nat.zero_le _⟩ (st1 := [.int q1, .ref (ad 0)]) rfl dX7_mailAll_3 (fun H locs Z => ?_)
  refine lv_if_ne (tgt := 13) X.x X.b dX7_mailAll_6 (by decide) (fun b1 => ?_) (fun b1 => ?_)
  · have hf := zif_f b1 hf
    refine lv_iload_n X.x X.b dX7_mailAll_13 rfl (lv_at hl 2 rfl) ?_
    refine lv_iconst (v := 0) X.x X.b dX7_mailAll_14 ki_0 ?_
    refine lv_bipush (v := 63) X.x X.b dX7_mailAll_15 kb_63 ?_
    obtain ⟨q2, hq2, hf⟩ := zb_ok hf
    refine z_callS X Z hl (mX7_in l Δ  x2 0 63 hq2) wd_870 wd_871 wd_68 wd_872 ok_X7_in (w' := (wX7 Δ ad thr saved mlen spot reads hash ms mpast mtext mread)) zSub_nil rfl zput_nil rfl (rest := [.ref (ad 0)]) rfl (Nat.le_of_ble_eq_true rfl) ⟨Nat.le_of_ble_eq_true rfl, Nat.le_of_ble_eq_true rfl⟩ ⟨Nat.zero_le _, Nat.zero_le _⟩ (st1 := [.int q2, .ref (ad 0)]) rfl dX7_mailAll_17 (fun H locs Z => ?_)
    refine lv_if_ne (tgt := 27) X.x X.b dX7_mailAll_20 (by decide) (fun b2 => ?_) (fun b2 => ?_)
    · have hf := zif_f b2 hf
      refine lv_iconst (v := 0) X.x X.b dX7_mailAll_27 ki_0 ?_
      obtain ⟨q3, hq3, hf⟩ := zb_ok hf
      refine z_callV X Z hl (mX7_refuses l Δ ad thr saved mlen spot reads hash ms mpast mtext mread 0 hq3) wd_862 wd_864 wd_18 wd_68 wd_865 ok_X7_refuses 7 rfl 0 rfl (w' := (wX7 Δ ad q3.2 saved mlen spot reads hash ms mpast mtext mread)) su_16 fs_16 pu_16 rfl (rest := []) rfl (Nat.le_of_ble_eq_true rfl) ⟨Nat.le_of_ble_eq_true rfl, Nat.le_of_ble_eq_true rfl⟩ ⟨Nat.zero_le _, Nat.zero_le _⟩ (st1 := [.int q3.1]) rfl dX7_mailAll_28 (fun H locs Z => ?_)
      refine lv_if_eq (tgt := 36) X.x X.b dX7_mailAll_31 (by decide) (fun b3 => ?_) (fun b3 => ?_)
      · have hf := zif_t b3 hf
        refine lv_aload_n X.x X.b dX7_mailAll_36 rfl (lv_at hl 0 rfl) ?_
        obtain ⟨q4, hq4, hf⟩ := zb_ok hf
        refine z_callV X Z hl (mX7_saves l Δ ad q3.2 saved mlen spot reads hash ms mpast mtext mread hq4) wd_876 wd_878 wd_19 wd_68 wd_879 ok_X7_saves 7 rfl 0 rfl (w' := (wX7 Δ ad q3.2 q4.1 mlen spot reads hash ms q4.2 mtext mread)) su_16 fs_16 pu_16 rfl (rest := []) rfl (Nat.le_of_ble_eq_true rfl) ⟨Nat.le_of_ble_eq_true rfl, Nat.le_of_ble_eq_true rfl⟩ ⟨Nat.zero_le _, Nat.zero_le _⟩ (st1 := []) rfl dX7_mailAll_37 (fun H locs Z => ?_)
        refine lv_iconst (v := 0) X.x X.b dX7_mailAll_40 ki_0 ?_
        refine lv_istore_n (lv' := [(3, .int 0), (0, .ref (ad 0)), (1, .int x1), (2, .int x2)]) X.x X.b dX7_mailAll_41 rfl hl (Nat.le_of_ble_eq_true rfl) rfl (fun ls hl => ?_)
        refine lv_iconst (v := 0) X.x X.b dX7_mailAll_42 ki_0 ?_
        refine lv_istore (lv' := [(4, .int 0), (3, .int 0), (0, .ref (ad 0)), (1, .int x1), (2, .int x2)]) X.x X.b dX7_mailAll_43 hl (Nat.le_of_ble_eq_true rfl) rfl (fun ls hl => ?_)
        exact L45 zfuel q3.2 q4.1 ms q4.2 x1 x2 0 0 hf _ _ _ Z (lv_sub hl [2, 3, 4, 1, 0] rfl)
      · have hf := zif_f b3 hf
        refine lv_iconst (v := 0) X.x X.b dX7_mailAll_34 ki_0 ?_
        cases hf
        exact z_iret X Z dX7_mailAll_35
    · have hf := zif_t b2 hf
      refine lv_iconst (v := 2) X.x X.b dX7_mailAll_23 ki_2 ?_
      refine lv_goto (tgt := 28) X.x X.b dX7_mailAll_24 (by decide) ?_
      obtain ⟨q5, hq5, hf⟩ := zb_ok hf
      refine z_callV X Z hl (mX7_refuses l Δ ad thr saved mlen spot reads hash ms mpast mtext mread 2 hq5) wd_862 wd_864 wd_18 wd_68 wd_865 ok_X7_refuses 7 rfl 0 rfl (w' := (wX7 Δ ad q5.2 saved mlen spot reads hash ms mpast mtext mread)) su_16 fs_16 pu_16 rfl (rest := []) rfl (Nat.le_of_ble_eq_true rfl) ⟨Nat.le_of_ble_eq_true rfl, Nat.le_of_ble_eq_true rfl⟩ ⟨Nat.zero_le _, Nat.zero_le _⟩ (st1 := [.int q5.1]) rfl dX7_mailAll_28 (fun H locs Z => ?_)
      refine lv_if_eq (tgt := 36) X.x X.b dX7_mailAll_31 (by decide) (fun b4 => ?_) (fun b4 => ?_)
      · have hf := zif_t b4 hf
        refine lv_aload_n X.x X.b dX7_mailAll_36 rfl (lv_at hl 0 rfl) ?_
        obtain ⟨q6, hq6, hf⟩ := zb_ok hf
        refine z_callV X Z hl (mX7_saves l Δ ad q5.2 saved mlen spot reads hash ms mpast mtext mread hq6) wd_876 wd_878 wd_19 wd_68 wd_879 ok_X7_saves 7 rfl 0 rfl (w' := (wX7 Δ ad q5.2 q6.1 mlen spot reads hash ms q6.2 mtext mread)) su_16 fs_16 pu_16 rfl (rest := []) rfl (Nat.le_of_ble_eq_true rfl) ⟨Nat.le_of_ble_eq_true rfl, Nat.le_of_ble_eq_true rfl⟩ ⟨Nat.zero_le _, Nat.zero_le _⟩ (st1 := []) rfl dX7_mailAll_37 (fun H locs Z => ?_)
        refine lv_iconst (v := 0) X.x X.b dX7_mailAll_40 ki_0 ?_
        refine lv_istore_n (lv' := [(3, .int 0), (0, .ref (ad 0)), (1, .int x1), (2, .int x2)]) X.x X.b dX7_mailAll_41 rfl hl (Nat.le_of_ble_eq_true rfl) rfl (fun ls hl => ?_)
        refine lv_iconst (v := 0) X.x X.b dX7_mailAll_42 ki_0 ?_
        refine lv_istore (lv' := [(4, .int 0), (3, .int 0), (0, .ref (ad 0)), (1, .int x1), (2, .int x2)]) X.x X.b dX7_mailAll_43 hl (Nat.le_of_ble_eq_true rfl) rfl (fun ls hl => ?_)
        exact L45 zfuel q5.2 q6.1 ms q6.2 x1 x2 0 0 hf _ _ _ Z (lv_sub hl [2, 3, 4, 1, 0] rfl)
      · have hf := zif_f b4 hf
        refine lv_iconst (v := 0) X.x X.b dX7_mailAll_34 ki_0 ?_
        cases hf
        exact z_iret X Z dX7_mailAll_35
  · have hf := zif_t b1 hf
    refine lv_iconst (v := 1) X.x X.b dX7_mailAll_9 ki_1 ?_
    refine lv_goto (tgt := 28) X.x X.b dX7_mailAll_10 (by decide) ?_
    obtain ⟨q7, hq7, hf⟩ := zb_ok hf
    refine z_callV X Z hl (mX7_refuses l Δ ad thr saved mlen spot reads hash ms mpast mtext mread 1 hq7) wd_862 wd_864 wd_18 wd_68 wd_865 ok_X7_refuses 7 rfl 0 rfl (w' := (wX7 Δ ad q7.2 saved mlen spot reads hash ms mpast mtext mread)) su_16 fs_16 pu_16 rfl (rest := []) rfl (Nat.le_of_ble_eq_true rfl) ⟨Nat.le_of_ble_eq_true rfl, Nat.le_of_ble_eq_true rfl⟩ ⟨Nat.zero_le _, Nat.zero_le _⟩ (st1 := [.int q7.1]) rfl dX7_mailAll_28 (fun H locs Z => ?_)
    refine lv_if_eq (tgt := 36) X.x X.b dX7_mailAll_31 (by decide) (fun b5 => ?_) (fun b5 => ?_)
    · have hf := zif_t b5 hf
      refine lv_aload_n X.x X.b dX7_mailAll_36 rfl (lv_at hl 0 rfl) ?_
      obtain ⟨q8, hq8, hf⟩ := zb_ok hf
      refine z_callV X Z hl (mX7_saves l Δ ad q7.2 saved mlen spot reads hash ms mpast mtext mread hq8) wd_876 wd_878 wd_19 wd_68 wd_879 ok_X7_saves 7 rfl 0 rfl (w' := (wX7 Δ ad q7.2 q8.1 mlen spot reads hash ms q8.2 mtext mread)) su_16 fs_16 pu_16 rfl (rest := []) rfl (Nat.le_of_ble_eq_true rfl) ⟨Nat.le_of_ble_eq_true rfl, Nat.le_of_ble_eq_true rfl⟩ ⟨Nat.zero_le _, Nat.zero_le _⟩ (st1 := []) rfl dX7_mailAll_37 (fun H locs Z => ?_)
      refine lv_iconst (v := 0) X.x X.b dX7_mailAll_40 ki_0 ?_
      refine lv_istore_n (lv' := [(3, .int 0), (0, .ref (ad 0)), (1, .int x1), (2, .int x2)]) X.x X.b dX7_mailAll_41 rfl hl (Nat.le_of_ble_eq_true rfl) rfl (fun ls hl => ?_)
      refine lv_iconst (v := 0) X.x X.b dX7_mailAll_42 ki_0 ?_
      refine lv_istore (lv' := [(4, .int 0), (3, .int 0), (0, .ref (ad 0)), (1, .int x1), (2, .int x2)]) X.x X.b dX7_mailAll_43 hl (Nat.le_of_ble_eq_true rfl) rfl (fun ls hl => ?_)
      exact L45 zfuel q7.2 q8.1 ms q8.2 x1 x2 0 0 hf _ _ _ Z (lv_sub hl [2, 3, 4, 1, 0] rfl)
    · have hf := zif_f b5 hf
      refine lv_iconst (v := 0) X.x X.b dX7_mailAll_34 ki_0 ?_
      cases hf
      exact z_iret X Z dX7_mailAll_35
